/-! EveningCloak.of(II)I -/
abbrev c_K_of : ByteArray := prog_1_method_6_code
def y_K_of : MethodName := ⟨"EveningCloak", "of", "(II)I"⟩
def rm_K_of : Room := { frames := 5, cells := 0, slots := 0, locals := 112 }
theorem cy_K_of : Cy y_K_of c_K_of 3 (some .int) 2 := ⟨lgm 283 (by decide +kernel) rfl, lgm 68 (by decide +kernel) rfl, by decide +kernel, by decide +kernel⟩
theorem im_K_of : Cond.instanceMethod y_K_of ∈ lg := lgm 281 (by decide +kernel) rfl
theorem se_K_of : Cond.selects y_K_of.cls y_K_of y_K_of ∈ lg := lgm 282 (by decide +kernel) rfl
def e_K_of : List Ent := [
  (0, .aload_n 0, 1, 1, .null, 0, 0, 0),
  (1, .getfield 12, 3, 4, .null, 0, 0, 217),
  (4, .iload_n 1, 1, 5, .null, 0, 0, 0),
  (5, .invokevirtual 75, 3, 8, .null, 0, 0, 0),
  (8, .ifCond .eq 13, 3, 21, .null, 0, 0, 0),
  (11, .iload_n 2, 1, 12, .null, 0, 0, 0),
  (12, .iconst 0, 1, 13, .int 0, 0, 0, 0),
  (13, .bipush 9, 2, 15, .int 9, 0, 0, 0),
  (15, .invokestatic 40, 3, 18, .null, 0, 0, 0),
  (18, .ifCond .ne 9, 3, 27, .null, 0, 0, 0),
  (21, .aload_n 0, 1, 22, .null, 0, 0, 0),
  (22, .iconst 0, 1, 23, .int 0, 0, 0, 0),
  (23, .invokevirtual 48, 3, 26, .null, 0, 0, 0),
  (26, .ireturn, 1, 27, .null, 0, 0, 0),
  (27, .aload_n 0, 1, 28, .null, 0, 0, 0),
  (28, .getfield 12, 3, 31, .null, 0, 0, 217),
  (31, .iload_n 1, 1, 32, .null, 0, 0, 0),
  (32, .iload_n 2, 1, 33, .null, 0, 0, 0),
  (33, .invokevirtual 78, 3, 36, .null, 0, 0, 0),
  (36, .ireturn, 1, 37, .null, 0, 0, 0)]
set_option maxRecDepth 100000 in
theorem ek_K_of : e_K_of.all (eok 0 c_K_of) = true := by decide +kernel
def F_K_of_21 (t : Nat) (w : A_W) : Option (Int32 × A_W) :=
  (ob w t 0).bind fun o2 =>
  (F_K_finding t 0 w).bind fun p1 =>
  some (p1.1, p1.2)
def F_K_of_0 (t : Nat) (x1 : Int32) (x2 : Int32) (w : A_W) : Option (Int32 × A_W) :=
  (gr w t 0 0).bind fun a1 =>
  (ob w a1 2).bind fun o3 =>
  (F_R_hasDeposit a1 x1 w).bind fun p2 =>
  if p2.1 = 0 then
    F_K_of_21 t p2.2
  else
    (F_K_within x2 0 9 p2.2).bind fun p5 =>
    if p5.1 = 0 then
      F_K_of_21 t p5.2
    else
      (gr p5.2 t 0 0).bind fun a7 =>
      (ob p5.2 a7 2).bind fun o9 =>
      (F_R_tellOf a7 x1 x2 p5.2).bind fun p8 =>
      some (p8.1, p8.2)
set_option maxHeartbeats 4000000 in
set_option maxRecDepth 100000 in
theorem s_K_of_21 {G : Gx} {X : Cx} {res : Int32 × A_W} (K : Ok G X 0 c_K_of 3 (some .int) rm_K_of) (hQ : QQ G X (some (.int res.1)) res.2 0 0) (t : Nat) (w : A_W) (h : F_K_of_21 t w = some res) : Sm G X w 0 0 [some (.ref t), none, none] [] 21 := by
  unfold F_K_of_21 at h
  refine Sm_run K ek_K_of 10 2 rfl ?_
  obtain ⟨o2, e_o2, h⟩ := Option.bind_eq_some_iff.mp h
  obtain ⟨p1, e_p1, h⟩ := Option.bind_eq_some_iff.mp h
  refine Sm_callV K (eok_i (eo ek_K_of (i := 12) rfl) rfl) cy_K_finding im_K_finding se_K_finding (lgm 249 (by decide +kernel) rfl) ⟨Nat.le_of_ble_eq_true rfl, Nat.le_of_ble_eq_true rfl⟩ (as := [.int 0]) (b := t) (st := []) (ob_e e_o2) (by decide) rfl rfl rfl rfl (Nat.le_of_ble_eq_true rfl) ⟨Nat.le_of_ble_eq_true rfl, Nat.le_of_ble_eq_true rfl⟩ (cn_K_finding e_p1) ?_
  refine Sm_eq (st1 := .int p1.1 :: []) (nc1 := 0) (ns1 := 0) rfl rfl rfl ?_
  obtain rfl := Option.some.inj h
  exact Sm_reti K hQ (eok_i (eo ek_K_of (i := 13) rfl) rfl)
set_option maxHeartbeats 4000000 in
set_option maxRecDepth 100000 in
theorem s_K_of_0 {G : Gx} {X : Cx} {res : Int32 × A_W} (K : Ok G X 0 c_K_of 3 (some .int) rm_K_of) (hQ : QQ G X (some (.int res.1)) res.2 0 0) (t : Nat) (x1 : Int32) (x2 : Int32) (w : A_W) (h : F_K_of_0 t x1 x2 w = some res) : Sm G X w 0 0 [some (.ref t), some (.int x1), some (.int x2)] [] 0 := by
  unfold F_K_of_0 at h
  refine Sm_run K ek_K_of 0 1 rfl ?_
  obtain ⟨a1, e_a1, h⟩ := Option.bind_eq_some_iff.mp h
  refine Sm_gr K (eo ek_K_of (i := 1) rfl) e_a1 ?_
  refine Sm_run K ek_K_of 2 1 rfl ?_
  obtain ⟨o3, e_o3, h⟩ := Option.bind_eq_some_iff.mp h
  obtain ⟨p2, e_p2, h⟩ := Option.bind_eq_some_iff.mp h
  refine Sm_callV K (eok_i (eo ek_K_of (i := 3) rfl) rfl) cy_R_hasDeposit im_R_hasDeposit se_R_hasDeposit (lgm 284 (by decide +kernel) rfl) ⟨Nat.le_of_ble_eq_true rfl, Nat.le_of_ble_eq_true rfl⟩ (as := [.int x1]) (b := a1) (st := []) (ob_e e_o3) (by decide) rfl rfl rfl rfl (Nat.le_of_ble_eq_true rfl) ⟨Nat.le_of_ble_eq_true rfl, Nat.le_of_ble_eq_true rfl⟩ (cn_R_hasDeposit e_p2) ?_
  refine Sm_eq (st1 := .int p2.1 :: []) (nc1 := 0) (ns1 := 0) rfl rfl rfl ?_
  refine Sm_if_eq K (eo ek_K_of (i := 4) rfl) (fun c4 => ?_) (fun c4 => ?_)
  · rw [if_pos c4] at h
    exact Sm_le (leR_s (leR_n (leR_n leR_nil))) (s_K_of_21 K hQ _ _ h)
  · rw [if_neg c4] at h
    refine Sm_run K ek_K_of 5 3 rfl ?_
    obtain ⟨p5, e_p5, h⟩ := Option.bind_eq_some_iff.mp h
    refine Sm_callS K (eok_i (eo ek_K_of (i := 8) rfl) rfl) cy_K_within st_K_within (lgm 243 (by decide +kernel) rfl) ⟨Nat.le_of_ble_eq_true rfl, Nat.le_of_ble_eq_true rfl⟩ (as := [.int x2, .int 0, .int 9]) (st := []) rfl rfl rfl (Nat.le_of_ble_eq_true rfl) ⟨Nat.le_of_ble_eq_true rfl, Nat.le_of_ble_eq_true rfl⟩ (cn_K_within e_p5) ?_
    refine Sm_eq (st1 := .int p5.1 :: []) (nc1 := 0) (ns1 := 0) rfl rfl rfl ?_
    refine Sm_if_ne K (eo ek_K_of (i := 9) rfl) (fun c6 => ?_) (fun c6 => ?_)
    · rw [if_neg c6] at h
      refine Sm_run K ek_K_of 14 1 rfl ?_
      obtain ⟨a7, e_a7, h⟩ := Option.bind_eq_some_iff.mp h
      refine Sm_gr K (eo ek_K_of (i := 15) rfl) e_a7 ?_
      refine Sm_run K ek_K_of 16 2 rfl ?_
      obtain ⟨o9, e_o9, h⟩ := Option.bind_eq_some_iff.mp h
      obtain ⟨p8, e_p8, h⟩ := Option.bind_eq_some_iff.mp h
      refine Sm_callV K (eok_i (eo ek_K_of (i := 18) rfl) rfl) cy_R_tellOf im_R_tellOf se_R_tellOf (lgm 289 (by decide +kernel) rfl) ⟨Nat.le_of_ble_eq_true rfl, Nat.le_of_ble_eq_true rfl⟩ (as := [.int x1, .int x2]) (b := a7) (st := []) (ob_e e_o9) (by decide) rfl rfl rfl rfl (Nat.le_of_ble_eq_true rfl) ⟨Nat.le_of_ble_eq_true rfl, Nat.le_of_ble_eq_true rfl⟩ (cn_R_tellOf e_p8) ?_
      refine Sm_eq (st1 := .int p8.1 :: []) (nc1 := 0) (ns1 := 0) rfl rfl rfl ?_
      obtain rfl := Option.some.inj h
      exact Sm_reti K hQ (eok_i (eo ek_K_of (i := 19) rfl) rfl)
    · rw [if_pos c6] at h
      exact Sm_le (leR_s (leR_n (leR_n leR_nil))) (s_K_of_21 K hQ _ _ h)
def F_K_of (t : Nat) (x1 : Int32) (x2 : Int32) (w : A_W) : Option (Int32 × A_W) := F_K_of_0 t x1 x2 w
theorem cn_K_of {G : Gx} {t : Nat} {x1 : Int32} {x2 : Int32} {w : A_W} {res : Int32 × A_W} (h : F_K_of t x1 x2 w = some res) : Cn G y_K_of c_K_of 3 (some .int) rm_K_of [.ref t, .int x1, .int x2] w (some (.int res.1)) res.2 :=
  Cn_of (own := 0) cy_K_of rfl rfl (Nat.le_of_ble_eq_true rfl) rfl (fun X K _ hQ => Sm_le (leR_s (leR_s (leR_s leR_nil))) (s_K_of_0 K hQ _ _ _ _ h))
/-! EveningCloak.change(III)I -/
abbrev c_K_change : ByteArray := prog_1_method_7_code
def y_K_change : MethodName := ⟨"EveningCloak", "change", "(III)I"⟩
def rm_K_change : Room := { frames := 2, cells := 0, slots := 0, locals := 43 }
theorem cy_K_change : Cy y_K_change c_K_change 6 (some .int) 3 := ⟨lgm 329 (by decide +kernel) rfl, lgm 68 (by decide +kernel) rfl, by decide +kernel, by decide +kernel⟩
theorem im_K_change : Cond.instanceMethod y_K_change ∈ lg := lgm 327 (by decide +kernel) rfl
theorem se_K_change : Cond.selects y_K_change.cls y_K_change y_K_change ∈ lg := lgm 328 (by decide +kernel) rfl
def e_K_change : List Ent := [
  (0, .aload_n 0, 1, 1, .null, 0, 0, 0),
  (1, .getfield 12, 3, 4, .null, 0, 0, 217),
  (4, .iload_n 1, 1, 5, .null, 0, 0, 0),
  (5, .invokevirtual 75, 3, 8, .null, 0, 0, 0),
  (8, .ifCond .eq 25, 3, 33, .null, 0, 0, 0),
  (11, .iload_n 2, 1, 12, .null, 0, 0, 0),
  (12, .iconst 0, 1, 13, .int 0, 0, 0, 0),
  (13, .iconst 5, 1, 14, .int 5, 0, 0, 0),
  (14, .invokestatic 40, 3, 17, .null, 0, 0, 0),
  (17, .ifCond .eq 16, 3, 33, .null, 0, 0, 0),
  (20, .iload_n 3, 1, 21, .null, 0, 0, 0),
  (21, .iconst 0, 1, 22, .int 0, 0, 0, 0),
  (22, .getstatic 81, 3, 25, .ref (aA 0), 0, 0, 330),
  (25, .iload_n 2, 1, 26, .null, 0, 0, 0),
  (26, .iaload, 1, 27, .null, 0, 0, 0),
  (27, .invokestatic 40, 3, 30, .null, 0, 0, 0),
  (30, .ifCond .ne 9, 3, 39, .null, 0, 0, 0),
  (33, .aload_n 0, 1, 34, .null, 0, 0, 0),
  (34, .iconst 0, 1, 35, .int 0, 0, 0, 0),
  (35, .invokevirtual 48, 3, 38, .null, 0, 0, 0),
  (38, .ireturn, 1, 39, .null, 0, 0, 0),
  (39, .aload_n 0, 1, 40, .null, 0, 0, 0),
  (40, .getfield 12, 3, 43, .null, 0, 0, 217),
  (43, .iload_n 2, 1, 44, .null, 0, 0, 0),
  (44, .invokevirtual 84, 3, 47, .null, 0, 0, 0),
  (47, .astore 4, 2, 49, .null, 0, 0, 0),
  (49, .aload 4, 2, 51, .null, 0, 0, 0),
  (51, .iload_n 1, 1, 52, .null, 0, 0, 0),
  (52, .iaload, 1, 53, .null, 0, 0, 0),
  (53, .istore 5, 2, 55, .null, 0, 0, 0),
  (55, .aload 4, 2, 57, .null, 0, 0, 0),
  (57, .iload_n 1, 1, 58, .null, 0, 0, 0),
  (58, .iload_n 3, 1, 59, .null, 0, 0, 0),
  (59, .iastore, 1, 60, .null, 0, 0, 0),
  (60, .iload 5, 2, 62, .null, 0, 0, 0),
  (62, .ireturn, 1, 63, .null, 0, 0, 0)]
set_option maxRecDepth 100000 in
theorem ek_K_change : e_K_change.all (eok 0 c_K_change) = true := by decide +kernel
def F_K_change_33 (t : Nat) (w : A_W) : Option (Int32 × A_W) :=
  (ob w t 0).bind fun o2 =>
  (F_K_finding t 0 w).bind fun p1 =>
  some (p1.1, p1.2)
def F_K_change_0 (t : Nat) (x1 : Int32) (x2 : Int32) (x3 : Int32) (w : A_W) : Option (Int32 × A_W) :=
  (gr w t 0 0).bind fun a1 =>
  (ob w a1 2).bind fun o3 =>
  (F_R_hasDeposit a1 x1 w).bind fun p2 =>
  if p2.1 = 0 then
    F_K_change_33 t p2.2
  else
    (F_K_within x2 0 5 p2.2).bind fun p5 =>
    if p5.1 = 0 then
      F_K_change_33 t p5.2
    else
      (rs 0 x2).bind fun v7 =>
      (F_K_within x3 0 v7 p5.2).bind fun p8 =>
      if p8.1 = 0 then
        F_K_change_33 t p8.2
      else
        (gr p8.2 t 0 0).bind fun a10 =>
        (ob p8.2 a10 2).bind fun o12 =>
        (F_R_depositRow a10 x2 p8.2).bind fun p11 =>
        (rd p11.2 p11.1 x1).bind fun v13 =>
        (wr p11.2 p11.1 x1 x3).bind fun w14 =>
        some (v13, w14)
set_option maxHeartbeats 4000000 in
set_option maxRecDepth 100000 in
theorem s_K_change_33 {G : Gx} {X : Cx} {res : Int32 × A_W} (K : Ok G X 0 c_K_change 6 (some .int) rm_K_change) (hQ : QQ G X (some (.int res.1)) res.2 0 0) (t : Nat) (w : A_W) (h : F_K_change_33 t w = some res) : Sm G X w 0 0 [some (.ref t), none, none, none, none, none] [] 33 := by
  unfold F_K_change_33 at h
  refine Sm_run K ek_K_change 17 2 rfl ?_
  obtain ⟨o2, e_o2, h⟩ := Option.bind_eq_some_iff.mp h
  obtain ⟨p1, e_p1, h⟩ := Option.bind_eq_some_iff.mp h
  refine Sm_callV K (eok_i (eo ek_K_change (i := 19) rfl) rfl) cy_K_finding im_K_finding se_K_finding (lgm 249 (by decide +kernel) rfl) ⟨Nat.le_of_ble_eq_true rfl, Nat.le_of_ble_eq_true rfl⟩ (as := [.int 0]) (b := t) (st := []) (ob_e e_o2) (by decide) rfl rfl rfl rfl (Nat.le_of_ble_eq_true rfl) ⟨Nat.le_of_ble_eq_true rfl, Nat.le_of_ble_eq_true rfl⟩ (cn_K_finding e_p1) ?_
  refine Sm_eq (st1 := .int p1.1 :: []) (nc1 := 0) (ns1 := 0) rfl rfl rfl ?_
  obtain rfl := Option.some.inj h
  exact Sm_reti K hQ (eok_i (eo ek_K_change (i := 20) rfl) rfl)
set_option maxHeartbeats 4000000 in
set_option maxRecDepth 100000 in
theorem s_K_change_0 {G : Gx} {X : Cx} {res : Int32 × A_W} (K : Ok G X 0 c_K_change 6 (some .int) rm_K_change) (hQ : QQ G X (some (.int res.1)) res.2 0 0) (t : Nat) (x1 : Int32) (x2 : Int32) (x3 : Int32) (w : A_W) (h : F_K_change_0 t x1 x2 x3 w = some res) : Sm G X w 0 0 [some (.ref t), some (.int x1), some (.int x2), some (.int x3), none, none] [] 0 := by
  unfold F_K_change_0 at h
  refine Sm_run K ek_K_change 0 1 rfl ?_
  obtain ⟨a1, e_a1, h⟩ := Option.bind_eq_some_iff.mp h
  refine Sm_gr K (eo ek_K_change (i := 1) rfl) e_a1 ?_
  refine Sm_run K ek_K_change 2 1 rfl ?_
  obtain ⟨o3, e_o3, h⟩ := Option.bind_eq_some_iff.mp h
  obtain ⟨p2, e_p2, h⟩ := Option.bind_eq_some_iff.mp h
  refine Sm_callV K (eok_i (eo ek_K_change (i := 3) rfl) rfl) cy_R_hasDeposit im_R_hasDeposit se_R_hasDeposit (lgm 284 (by decide +kernel) rfl) ⟨Nat.le_of_ble_eq_true rfl, Nat.le_of_ble_eq_true rfl⟩ (as := [.int x1]) (b := a1) (st := []) (ob_e e_o3) (by decide) rfl rfl rfl rfl (Nat.le_of_ble_eq_true rfl) ⟨Nat.le_of_ble_eq_true rfl, Nat.le_of_ble_eq_true rfl⟩ (cn_R_hasDeposit e_p2) ?_
  refine Sm_eq (st1 := .int p2.1 :: []) (nc1 := 0) (ns1 := 0) rfl rfl rfl ?_
  refine Sm_if_eq K (eo ek_K_change (i := 4) rfl) (fun c4 => ?_) (fun c4 => ?_)
  · rw [if_pos c4] at h
    exact Sm_le (leR_s (leR_n (leR_n (leR_n (leR_n (leR_n leR_nil)))))) (s_K_change_33 K hQ _ _ h)
  · rw [if_neg c4] at h
    refine Sm_run K ek_K_change 5 3 rfl ?_
    obtain ⟨p5, e_p5, h⟩ := Option.bind_eq_some_iff.mp h
    refine Sm_callS K (eok_i (eo ek_K_change (i := 8) rfl) rfl) cy_K_within st_K_within (lgm 243 (by decide +kernel) rfl) ⟨Nat.le_of_ble_eq_true rfl, Nat.le_of_ble_eq_true rfl⟩ (as := [.int x2, .int 0, .int 5]) (st := []) rfl rfl rfl (Nat.le_of_ble_eq_true rfl) ⟨Nat.le_of_ble_eq_true rfl, Nat.le_of_ble_eq_true rfl⟩ (cn_K_within e_p5) ?_
    refine Sm_eq (st1 := .int p5.1 :: []) (nc1 := 0) (ns1 := 0) rfl rfl rfl ?_
    refine Sm_if_eq K (eo ek_K_change (i := 9) rfl) (fun c6 => ?_) (fun c6 => ?_)
    · rw [if_pos c6] at h
      exact Sm_le (leR_s (leR_n (leR_n (leR_n (leR_n (leR_n leR_nil)))))) (s_K_change_33 K hQ _ _ h)
    · rw [if_neg c6] at h
      refine Sm_run K ek_K_change 10 4 rfl ?_
      obtain ⟨v7, e_v7, h⟩ := Option.bind_eq_some_iff.mp h
      refine Sm_rs K (eok_i (eo ek_K_change (i := 14) rfl) rfl) e_v7 ?_
      obtain ⟨p8, e_p8, h⟩ := Option.bind_eq_some_iff.mp h
      refine Sm_callS K (eok_i (eo ek_K_change (i := 15) rfl) rfl) cy_K_within st_K_within (lgm 243 (by decide +kernel) rfl) ⟨Nat.le_of_ble_eq_true rfl, Nat.le_of_ble_eq_true rfl⟩ (as := [.int x3, .int 0, .int v7]) (st := []) rfl rfl rfl (Nat.le_of_ble_eq_true rfl) ⟨Nat.le_of_ble_eq_true rfl, Nat.le_of_ble_eq_true rfl⟩ (cn_K_within e_p8) ?_
      refine Sm_eq (st1 := .int p8.1 :: []) (nc1 := 0) (ns1 := 0) rfl rfl rfl ?_
      refine Sm_if_ne K (eo ek_K_change (i := 16) rfl) (fun c9 => ?_) (fun c9 => ?_)
      · rw [if_neg c9] at h
        refine Sm_run K ek_K_change 21 1 rfl ?_
        obtain ⟨a10, e_a10, h⟩ := Option.bind_eq_some_iff.mp h
        refine Sm_gr K (eo ek_K_change (i := 22) rfl) e_a10 ?_
        refine Sm_run K ek_K_change 23 1 rfl ?_
        obtain ⟨o12, e_o12, h⟩ := Option.bind_eq_some_iff.mp h
        obtain ⟨p11, e_p11, h⟩ := Option.bind_eq_some_iff.mp h
        refine Sm_callV K (eok_i (eo ek_K_change (i := 24) rfl) rfl) cy_R_depositRow im_R_depositRow se_R_depositRow (lgm 332 (by decide +kernel) rfl) ⟨Nat.le_of_ble_eq_true rfl, Nat.le_of_ble_eq_true rfl⟩ (as := [.int x2]) (b := a10) (st := []) (ob_e e_o12) (by decide) rfl rfl rfl rfl (Nat.le_of_ble_eq_true rfl) ⟨Nat.le_of_ble_eq_true rfl, Nat.le_of_ble_eq_true rfl⟩ (cn_R_depositRow e_p11) ?_
        refine Sm_eq (st1 := .ref p11.1 :: []) (nc1 := 0) (ns1 := 0) rfl rfl rfl ?_
        refine Sm_run K ek_K_change 25 3 rfl ?_
        obtain ⟨v13, e_v13, h⟩ := Option.bind_eq_some_iff.mp h
        refine Sm_rd K (eok_i (eo ek_K_change (i := 28) rfl) rfl) e_v13 ?_
        refine Sm_run K ek_K_change 29 4 rfl ?_
        obtain ⟨w14, e_w14, h⟩ := Option.bind_eq_some_iff.mp h
        refine Sm_wr K (eok_i (eo ek_K_change (i := 33) rfl) rfl) e_w14 ?_
        refine Sm_run K ek_K_change 34 1 rfl ?_
        obtain rfl := Option.some.inj h
        exact Sm_reti K hQ (eok_i (eo ek_K_change (i := 35) rfl) rfl)
      · rw [if_pos c9] at h
        exact Sm_le (leR_s (leR_n (leR_n (leR_n (leR_n (leR_n leR_nil)))))) (s_K_change_33 K hQ _ _ h)
def F_K_change (t : Nat) (x1 : Int32) (x2 : Int32) (x3 : Int32) (w : A_W) : Option (Int32 × A_W) := F_K_change_0 t x1 x2 x3 w
theorem cn_K_change {G : Gx} {t : Nat} {x1 : Int32} {x2 : Int32} {x3 : Int32} {w : A_W} {res : Int32 × A_W} (h : F_K_change t x1 x2 x3 w = some res) : Cn G y_K_change c_K_change 6 (some .int) rm_K_change [.ref t, .int x1, .int x2, .int x3] w (some (.int res.1)) res.2 :=
  Cn_of (own := 0) cy_K_change rfl rfl (Nat.le_of_ble_eq_true rfl) rfl (fun X K _ hQ => Sm_le (leR_s (leR_s (leR_s (leR_s (leR_n (leR_n leR_nil)))))) (s_K_change_0 K hQ _ _ _ _ _ h))
/-! EveningCloak$Room.hasGirl(I)Z -/
abbrev c_R_hasGirl : ByteArray := prog_3_method_4_code
def y_R_hasGirl : MethodName := ⟨"EveningCloak$Room", "hasGirl", "(I)Z"⟩
def rm_R_hasGirl : Room := { frames := 1, cells := 0, slots := 0, locals := 22 }
theorem cy_R_hasGirl : Cy y_R_hasGirl c_R_hasGirl 2 (some .boolean) 1 := ⟨lgm 340 (by decide +kernel) rfl, lgm 69 (by decide +kernel) rfl, by decide +kernel, by decide +kernel⟩
theorem im_R_hasGirl : Cond.instanceMethod y_R_hasGirl ∈ lg := lgm 338 (by decide +kernel) rfl
theorem se_R_hasGirl : Cond.selects y_R_hasGirl.cls y_R_hasGirl y_R_hasGirl ∈ lg := lgm 339 (by decide +kernel) rfl
def e_R_hasGirl : List Ent := [
  (0, .iload_n 1, 1, 1, .null, 0, 0, 0),
  (1, .iconst 0, 1, 2, .int 0, 0, 0, 0),
  (2, .aload_n 0, 1, 3, .null, 0, 0, 0),
  (3, .getfield 64, 3, 6, .null, 2, 4, 107),
  (6, .iconst 1, 1, 7, .int 1, 0, 0, 0),
  (7, .isub, 1, 8, .null, 0, 0, 0),
  (8, .invokestatic 73, 3, 11, .null, 0, 0, 0),
  (11, .ireturn, 1, 12, .null, 0, 0, 0)]
set_option maxRecDepth 100000 in
theorem ek_R_hasGirl : e_R_hasGirl.all (eok 2 c_R_hasGirl) = true := by decide +kernel
def F_R_hasGirl_0 (t : Nat) (x1 : Int32) (w : A_W) : Option (Int32 × A_W) :=
  (gi w t 2 4).bind fun v1 =>
  (F_K_within x1 0 (v1 - 1) w).bind fun p2 =>
  (bz p2.1).bind fun b3 =>
  some (b3, p2.2)
set_option maxHeartbeats 4000000 in
set_option maxRecDepth 100000 in
theorem s_R_hasGirl_0 {G : Gx} {X : Cx} {res : Int32 × A_W} (K : Ok G X 2 c_R_hasGirl 2 (some .boolean) rm_R_hasGirl) (hQ : QQ G X (some (.int res.1)) res.2 0 0) (t : Nat) (x1 : Int32) (w : A_W) (h : F_R_hasGirl_0 t x1 w = some res) : Sm G X w 0 0 [some (.ref t), some (.int x1)] [] 0 := by
  unfold F_R_hasGirl_0 at h
  refine Sm_run K ek_R_hasGirl 0 3 rfl ?_
  obtain ⟨v1, e_v1, h⟩ := Option.bind_eq_some_iff.mp h
  refine Sm_gi K (eo ek_R_hasGirl (i := 3) rfl) e_v1 ?_
  refine Sm_run K ek_R_hasGirl 4 2 rfl ?_
  obtain ⟨p2, e_p2, h⟩ := Option.bind_eq_some_iff.mp h
  refine Sm_callSN K (host := "EveningCloak") (eok_i (eo ek_R_hasGirl (i := 6) rfl) rfl) cy_K_within st_K_within (by decide +kernel) ⟨Nat.le_of_ble_eq_true rfl, Nat.le_of_ble_eq_true rfl⟩ (as := [.int x1, .int 0, .int (v1 - 1)]) (st := []) rfl rfl rfl (Nat.le_of_ble_eq_true rfl) ⟨Nat.le_of_ble_eq_true rfl, Nat.le_of_ble_eq_true rfl⟩ (cn_K_within e_p2) ?_
  refine Sm_eq (st1 := .int p2.1 :: []) (nc1 := 0) (ns1 := 0) rfl rfl rfl ?_
  obtain ⟨b3, e_b3, h⟩ := Option.bind_eq_some_iff.mp h
  obtain rfl := Option.some.inj h
  exact Sm_retz K e_b3 hQ (eok_i (eo ek_R_hasGirl (i := 7) rfl) rfl)
def F_R_hasGirl (t : Nat) (x1 : Int32) (w : A_W) : Option (Int32 × A_W) := F_R_hasGirl_0 t x1 w
theorem cn_R_hasGirl {G : Gx} {t : Nat} {x1 : Int32} {w : A_W} {res : Int32 × A_W} (h : F_R_hasGirl t x1 w = some res) : Cn G y_R_hasGirl c_R_hasGirl 2 (some .boolean) rm_R_hasGirl [.ref t, .int x1] w (some (.int res.1)) res.2 :=
  Cn_of (own := 2) cy_R_hasGirl rfl rfl (Nat.le_of_ble_eq_true rfl) rfl (fun X K _ hQ => Sm_le (leR_s (leR_s leR_nil)) (s_R_hasGirl_0 K hQ _ _ _ h))
/-! EveningCloak$Room.girlRow(I)[I -/
abbrev c_R_girlRow : ByteArray := prog_3_method_8_code
def y_R_girlRow : MethodName := ⟨"EveningCloak$Room", "girlRow", "(I)[I"⟩
def rm_R_girlRow : Room := { frames := 0, cells := 0, slots := 0, locals := 0 }
theorem cy_R_girlRow : Cy y_R_girlRow c_R_girlRow 2 (some (.array .int)) 1 := ⟨lgm 344 (by decide +kernel) rfl, lgm 69 (by decide +kernel) rfl, by decide +kernel, by decide +kernel⟩
theorem im_R_girlRow : Cond.instanceMethod y_R_girlRow ∈ lg := lgm 342 (by decide +kernel) rfl
theorem se_R_girlRow : Cond.selects y_R_girlRow.cls y_R_girlRow y_R_girlRow ∈ lg := lgm 343 (by decide +kernel) rfl
def e_R_girlRow : List Ent := [
  (0, .iload_n 1, 1, 1, .null, 0, 0, 0),
  (1, .lookupswitch 37 #[(0, 27), (1, 32)], 27, 28, .null, 0, 0, 0),
  (28, .aload_n 0, 1, 29, .null, 0, 0, 0),
  (29, .getfield 37, 3, 32, .null, 2, 12, 128),
  (32, .areturn, 1, 33, .null, 0, 0, 0),
  (33, .aload_n 0, 1, 34, .null, 0, 0, 0),
  (34, .getfield 40, 3, 37, .null, 2, 13, 130),
  (37, .areturn, 1, 38, .null, 0, 0, 0),
  (38, .aload_n 0, 1, 39, .null, 0, 0, 0),
  (39, .getfield 43, 3, 42, .null, 2, 14, 133),
  (42, .areturn, 1, 43, .null, 0, 0, 0)]
set_option maxRecDepth 100000 in
theorem ek_R_girlRow : e_R_girlRow.all (eok 2 c_R_girlRow) = true := by decide +kernel
def F_R_girlRow_0 (t : Nat) (x1 : Int32) (w : A_W) : Option (Nat × A_W) :=
  if x1 = 0 then
    (gr w t 2 12).bind fun a1 =>
    some (a1, w)
  else if x1 = 1 then
    (gr w t 2 13).bind fun a3 =>
    some (a3, w)
  else
    (gr w t 2 14).bind fun a5 =>
    some (a5, w)
set_option maxHeartbeats 4000000 in
set_option maxRecDepth 100000 in
theorem s_R_girlRow_0 {G : Gx} {X : Cx} {res : Nat × A_W} (K : Ok G X 2 c_R_girlRow 2 (some (.array .int)) rm_R_girlRow) (hQ : QQ G X (some (.ref res.1)) res.2 0 0) (t : Nat) (x1 : Int32) (w : A_W) (h : F_R_girlRow_0 t x1 w = some res) : Sm G X w 0 0 [some (.ref t), some (.int x1)] [] 0 := by
  unfold F_R_girlRow_0 at h
  refine Sm_run K ek_R_girlRow 0 1 rfl ?_
  by_cases c2 : x1 = 0
  · rw [if_pos c2] at h
    refine Sm_lsw K (eok_d (eo ek_R_girlRow (i := 1) rfl)) (by decide) 28 (by rw [c2]; decide) ?_
    refine Sm_run K ek_R_girlRow 2 1 rfl ?_
    obtain ⟨a1, e_a1, h⟩ := Option.bind_eq_some_iff.mp h
    refine Sm_gr K (eo ek_R_girlRow (i := 3) rfl) e_a1 ?_
    obtain rfl := Option.some.inj h
    exact Sm_reta K (by first | exact Or.inl ⟨_, rfl⟩ | exact Or.inr ⟨_, rfl⟩) hQ (eok_i (eo ek_R_girlRow (i := 4) rfl) rfl)
  rw [if_neg c2] at h
  by_cases c4 : x1 = 1
  · rw [if_pos c4] at h
    refine Sm_lsw K (eok_d (eo ek_R_girlRow (i := 1) rfl)) (by decide) 33 (by rw [c4]; decide) ?_
    refine Sm_run K ek_R_girlRow 5 1 rfl ?_
    obtain ⟨a3, e_a3, h⟩ := Option.bind_eq_some_iff.mp h
    refine Sm_gr K (eo ek_R_girlRow (i := 6) rfl) e_a3 ?_
    obtain rfl := Option.some.inj h
    exact Sm_reta K (by first | exact Or.inl ⟨_, rfl⟩ | exact Or.inr ⟨_, rfl⟩) hQ (eok_i (eo ek_R_girlRow (i := 7) rfl) rfl)
  rw [if_neg c4] at h
  refine Sm_lsw K (eok_d (eo ek_R_girlRow (i := 1) rfl)) (by decide) 38 (lsw_out (ps2 := [(0, 27), (1, 32)]) rfl (by decide) (fun q hq => by simp only [List.mem_cons, List.not_mem_nil, or_false] at hq; rcases hq with rfl | rfl <;> intro hz <;> first | exact absurd (Int32.toInt_inj.mp (hz.trans (by decide : _ = (0 : Int32).toInt))) c2 | exact absurd (Int32.toInt_inj.mp (hz.trans (by decide : _ = (1 : Int32).toInt))) c4)) ?_
  refine Sm_run K ek_R_girlRow 8 1 rfl ?_
  obtain ⟨a5, e_a5, h⟩ := Option.bind_eq_some_iff.mp h
  refine Sm_gr K (eo ek_R_girlRow (i := 9) rfl) e_a5 ?_
  obtain rfl := Option.some.inj h
  exact Sm_reta K (by first | exact Or.inl ⟨_, rfl⟩ | exact Or.inr ⟨_, rfl⟩) hQ (eok_i (eo ek_R_girlRow (i := 10) rfl) rfl)
def F_R_girlRow (t : Nat) (x1 : Int32) (w : A_W) : Option (Nat × A_W) := F_R_girlRow_0 t x1 w
theorem cn_R_girlRow {G : Gx} {t : Nat} {x1 : Int32} {w : A_W} {res : Nat × A_W} (h : F_R_girlRow t x1 w = some res) : Cn G y_R_girlRow c_R_girlRow 2 (some (.array .int)) rm_R_girlRow [.ref t, .int x1] w (some (.ref res.1)) res.2 :=
  Cn_of (own := 2) cy_R_girlRow rfl rfl (Nat.le_of_ble_eq_true rfl) rfl (fun X K _ hQ => Sm_le (leR_s (leR_s leR_nil)) (s_R_girlRow_0 K hQ _ _ _ h))
/-! EveningCloak.ofGirl(II)I -/
abbrev c_K_ofGirl : ByteArray := prog_1_method_8_code
def y_K_ofGirl : MethodName := ⟨"EveningCloak", "ofGirl", "(II)I"⟩
def rm_K_ofGirl : Room := { frames := 2, cells := 0, slots := 0, locals := 43 }
theorem cy_K_ofGirl : Cy y_K_ofGirl c_K_ofGirl 3 (some .int) 2 := ⟨lgm 336 (by decide +kernel) rfl, lgm 68 (by decide +kernel) rfl, by decide +kernel, by decide +kernel⟩
theorem im_K_ofGirl : Cond.instanceMethod y_K_ofGirl ∈ lg := lgm 334 (by decide +kernel) rfl
theorem se_K_ofGirl : Cond.selects y_K_ofGirl.cls y_K_ofGirl y_K_ofGirl ∈ lg := lgm 335 (by decide +kernel) rfl
def e_K_ofGirl : List Ent := [
  (0, .aload_n 0, 1, 1, .null, 0, 0, 0),
  (1, .getfield 12, 3, 4, .null, 0, 0, 217),
  (4, .iload_n 1, 1, 5, .null, 0, 0, 0),
  (5, .invokevirtual 88, 3, 8, .null, 0, 0, 0),
  (8, .ifCond .eq 12, 3, 20, .null, 0, 0, 0),
  (11, .iload_n 2, 1, 12, .null, 0, 0, 0),
  (12, .iconst 0, 1, 13, .int 0, 0, 0, 0),
  (13, .iconst 2, 1, 14, .int 2, 0, 0, 0),
  (14, .invokestatic 40, 3, 17, .null, 0, 0, 0),
  (17, .ifCond .ne 9, 3, 26, .null, 0, 0, 0),
  (20, .aload_n 0, 1, 21, .null, 0, 0, 0),
  (21, .iconst 0, 1, 22, .int 0, 0, 0, 0),
  (22, .invokevirtual 48, 3, 25, .null, 0, 0, 0),
  (25, .ireturn, 1, 26, .null, 0, 0, 0),
  (26, .aload_n 0, 1, 27, .null, 0, 0, 0),
  (27, .getfield 12, 3, 30, .null, 0, 0, 217),
  (30, .iload_n 2, 1, 31, .null, 0, 0, 0),
  (31, .invokevirtual 91, 3, 34, .null, 0, 0, 0),
  (34, .iload_n 1, 1, 35, .null, 0, 0, 0),
  (35, .iaload, 1, 36, .null, 0, 0, 0),
  (36, .ireturn, 1, 37, .null, 0, 0, 0)]
set_option maxRecDepth 100000 in
theorem ek_K_ofGirl : e_K_ofGirl.all (eok 0 c_K_ofGirl) = true := by decide +kernel
def F_K_ofGirl_20 (t : Nat) (w : A_W) : Option (Int32 × A_W) :=
  (ob w t 0).bind fun o2 =>
  (F_K_finding t 0 w).bind fun p1 =>
  some (p1.1, p1.2)
def F_K_ofGirl_0 (t : Nat) (x1 : Int32) (x2 : Int32) (w : A_W) : Option (Int32 × A_W) :=
  (gr w t 0 0).bind fun a1 =>
  (ob w a1 2).bind fun o3 =>
  (F_R_hasGirl a1 x1 w).bind fun p2 =>
  if p2.1 = 0 then
    F_K_ofGirl_20 t p2.2
  else
    (F_K_within x2 0 2 p2.2).bind fun p5 =>
    if p5.1 = 0 then
      F_K_ofGirl_20 t p5.2
    else
      (gr p5.2 t 0 0).bind fun a7 =>
      (ob p5.2 a7 2).bind fun o9 =>
      (F_R_girlRow a7 x2 p5.2).bind fun p8 =>
      (rd p8.2 p8.1 x1).bind fun v10 =>
      some (v10, p8.2)
set_option maxHeartbeats 4000000 in
set_option maxRecDepth 100000 in
theorem s_K_ofGirl_20 {G : Gx} {X : Cx} {res : Int32 × A_W} (K : Ok G X 0 c_K_ofGirl 3 (some .int) rm_K_ofGirl) (hQ : QQ G X (some (.int res.1)) res.2 0 0) (t : Nat) (w : A_W) (h : F_K_ofGirl_20 t w = some res) : Sm G X w 0 0 [some (.ref t), none, none] [] 20 := by
  unfold F_K_ofGirl_20 at h
  refine Sm_run K ek_K_ofGirl 10 2 rfl ?_
  obtain ⟨o2, e_o2, h⟩ := Option.bind_eq_some_iff.mp h
  obtain ⟨p1, e_p1, h⟩ := Option.bind_eq_some_iff.mp h
  refine Sm_callV K (eok_i (eo ek_K_ofGirl (i := 12) rfl) rfl) cy_K_finding im_K_finding se_K_finding (lgm 249 (by decide +kernel) rfl) ⟨Nat.le_of_ble_eq_true rfl, Nat.le_of_ble_eq_true rfl⟩ (as := [.int 0]) (b := t) (st := []) (ob_e e_o2) (by decide) rfl rfl rfl rfl (Nat.le_of_ble_eq_true rfl) ⟨Nat.le_of_ble_eq_true rfl, Nat.le_of_ble_eq_true rfl⟩ (cn_K_finding e_p1) ?_
  refine Sm_eq (st1 := .int p1.1 :: []) (nc1 := 0) (ns1 := 0) rfl rfl rfl ?_
  obtain rfl := Option.some.inj h
  exact Sm_reti K hQ (eok_i (eo ek_K_ofGirl (i := 13) rfl) rfl)
set_option maxHeartbeats 4000000 in
set_option maxRecDepth 100000 in
theorem s_K_ofGirl_0 {G : Gx} {X : Cx} {res : Int32 × A_W} (K : Ok G X 0 c_K_ofGirl 3 (some .int) rm_K_ofGirl) (hQ : QQ G X (some (.int res.1)) res.2 0 0) (t : Nat) (x1 : Int32) (x2 : Int32) (w : A_W) (h : F_K_ofGirl_0 t x1 x2 w = some res) : Sm G X w 0 0 [some (.ref t), some (.int x1), some (.int x2)] [] 0 := by
  unfold F_K_ofGirl_0 at h
  refine Sm_run K ek_K_ofGirl 0 1 rfl ?_
  obtain ⟨a1, e_a1, h⟩ := Option.bind_eq_some_iff.mp h
  refine Sm_gr K (eo ek_K_ofGirl (i := 1) rfl) e_a1 ?_
  refine Sm_run K ek_K_ofGirl 2 1 rfl ?_
  obtain ⟨o3, e_o3, h⟩ := Option.bind_eq_some_iff.mp h
  obtain ⟨p2, e_p2, h⟩ := Option.bind_eq_some_iff.mp h
  refine Sm_callV K (eok_i (eo ek_K_ofGirl (i := 3) rfl) rfl) cy_R_hasGirl im_R_hasGirl se_R_hasGirl (lgm 337 (by decide +kernel) rfl) ⟨Nat.le_of_ble_eq_true rfl, Nat.le_of_ble_eq_true rfl⟩ (as := [.int x1]) (b := a1) (st := []) (ob_e e_o3) (by decide) rfl rfl rfl rfl (Nat.le_of_ble_eq_true rfl) ⟨Nat.le_of_ble_eq_true rfl, Nat.le_of_ble_eq_true rfl⟩ (cn_R_hasGirl e_p2) ?_
  refine Sm_eq (st1 := .int p2.1 :: []) (nc1 := 0) (ns1 := 0) rfl rfl rfl ?_
  refine Sm_if_eq K (eo ek_K_ofGirl (i := 4) rfl) (fun c4 => ?_) (fun c4 => ?_)
  · rw [if_pos c4] at h
    exact Sm_le (leR_s (leR_n (leR_n leR_nil))) (s_K_ofGirl_20 K hQ _ _ h)
  · rw [if_neg c4] at h
    refine Sm_run K ek_K_ofGirl 5 3 rfl ?_
    obtain ⟨p5, e_p5, h⟩ := Option.bind_eq_some_iff.mp h
    refine Sm_callS K (eok_i (eo ek_K_ofGirl (i := 8) rfl) rfl) cy_K_within st_K_within (lgm 243 (by decide +kernel) rfl) ⟨Nat.le_of_ble_eq_true rfl, Nat.le_of_ble_eq_true rfl⟩ (as := [.int x2, .int 0, .int 2]) (st := []) rfl rfl rfl (Nat.le_of_ble_eq_true rfl) ⟨Nat.le_of_ble_eq_true rfl, Nat.le_of_ble_eq_true rfl⟩ (cn_K_within e_p5) ?_
    refine Sm_eq (st1 := .int p5.1 :: []) (nc1 := 0) (ns1 := 0) rfl rfl rfl ?_
    refine Sm_if_ne K (eo ek_K_ofGirl (i := 9) rfl) (fun c6 => ?_) (fun c6 => ?_)
    · rw [if_neg c6] at h
      refine Sm_run K ek_K_ofGirl 14 1 rfl ?_
      obtain ⟨a7, e_a7, h⟩ := Option.bind_eq_some_iff.mp h
      refine Sm_gr K (eo ek_K_ofGirl (i := 15) rfl) e_a7 ?_
      refine Sm_run K ek_K_ofGirl 16 1 rfl ?_
      obtain ⟨o9, e_o9, h⟩ := Option.bind_eq_some_iff.mp h
      obtain ⟨p8, e_p8, h⟩ := Option.bind_eq_some_iff.mp h
      refine Sm_callV K (eok_i (eo ek_K_ofGirl (i := 17) rfl) rfl) cy_R_girlRow im_R_girlRow se_R_girlRow (lgm 341 (by decide +kernel) rfl) ⟨Nat.le_of_ble_eq_true rfl, Nat.le_of_ble_eq_true rfl⟩ (as := [.int x2]) (b := a7) (st := []) (ob_e e_o9) (by decide) rfl rfl rfl rfl (Nat.le_of_ble_eq_true rfl) ⟨Nat.le_of_ble_eq_true rfl, Nat.le_of_ble_eq_true rfl⟩ (cn_R_girlRow e_p8) ?_
      refine Sm_eq (st1 := .ref p8.1 :: []) (nc1 := 0) (ns1 := 0) rfl rfl rfl ?_
      refine Sm_run K ek_K_ofGirl 18 1 rfl ?_
      obtain ⟨v10, e_v10, h⟩ := Option.bind_eq_some_iff.mp h
      refine Sm_rd K (eok_i (eo ek_K_ofGirl (i := 19) rfl) rfl) e_v10 ?_
      obtain rfl := Option.some.inj h
      exact Sm_reti K hQ (eok_i (eo ek_K_ofGirl (i := 20) rfl) rfl)
    · rw [if_pos c6] at h
      exact Sm_le (leR_s (leR_n (leR_n leR_nil))) (s_K_ofGirl_20 K hQ _ _ h)
def F_K_ofGirl (t : Nat) (x1 : Int32) (x2 : Int32) (w : A_W) : Option (Int32 × A_W) := F_K_ofGirl_0 t x1 x2 w
theorem cn_K_ofGirl {G : Gx} {t : Nat} {x1 : Int32} {x2 : Int32} {w : A_W} {res : Int32 × A_W} (h : F_K_ofGirl t x1 x2 w = some res) : Cn G y_K_ofGirl c_K_ofGirl 3 (some .int) rm_K_ofGirl [.ref t, .int x1, .int x2] w (some (.int res.1)) res.2 :=
  Cn_of (own := 0) cy_K_ofGirl rfl rfl (Nat.le_of_ble_eq_true rfl) rfl (fun X K _ hQ => Sm_le (leR_s (leR_s (leR_s leR_nil))) (s_K_ofGirl_0 K hQ _ _ _ _ h))
/-! EveningCloak.wake(III)I -/
abbrev c_K_wake : ByteArray := prog_1_method_9_code
def y_K_wake : MethodName := ⟨"EveningCloak", "wake", "(III)I"⟩
def rm_K_wake : Room := { frames := 2, cells := 0, slots := 0, locals := 43 }
theorem cy_K_wake : Cy y_K_wake c_K_wake 6 (some .int) 3 := ⟨lgm 348 (by decide +kernel) rfl, lgm 68 (by decide +kernel) rfl, by decide +kernel, by decide +kernel⟩
theorem im_K_wake : Cond.instanceMethod y_K_wake ∈ lg := lgm 346 (by decide +kernel) rfl
theorem se_K_wake : Cond.selects y_K_wake.cls y_K_wake y_K_wake ∈ lg := lgm 347 (by decide +kernel) rfl
def e_K_wake : List Ent := [
  (0, .aload_n 0, 1, 1, .null, 0, 0, 0),
  (1, .getfield 12, 3, 4, .null, 0, 0, 217),
  (4, .iload_n 1, 1, 5, .null, 0, 0, 0),
  (5, .invokevirtual 88, 3, 8, .null, 0, 0, 0),
  (8, .ifCond .eq 29, 3, 37, .null, 0, 0, 0),
  (11, .iload_n 2, 1, 12, .null, 0, 0, 0),
  (12, .iconst 0, 1, 13, .int 0, 0, 0, 0),
  (13, .iconst 2, 1, 14, .int 2, 0, 0, 0),
  (14, .invokestatic 40, 3, 17, .null, 0, 0, 0),
  (17, .ifCond .eq 20, 3, 37, .null, 0, 0, 0),
  (20, .iload_n 3, 1, 21, .null, 0, 0, 0),
  (21, .getstatic 94, 3, 24, .ref (aA 1), 0, 1, 349),
  (24, .iload_n 2, 1, 25, .null, 0, 0, 0),
  (25, .iaload, 1, 26, .null, 0, 0, 0),
  (26, .getstatic 97, 3, 29, .ref (aA 2), 0, 2, 351),
  (29, .iload_n 2, 1, 30, .null, 0, 0, 0),
  (30, .iaload, 1, 31, .null, 0, 0, 0),
  (31, .invokestatic 40, 3, 34, .null, 0, 0, 0),
  (34, .ifCond .ne 9, 3, 43, .null, 0, 0, 0),
  (37, .aload_n 0, 1, 38, .null, 0, 0, 0),
  (38, .iconst 0, 1, 39, .int 0, 0, 0, 0),
  (39, .invokevirtual 48, 3, 42, .null, 0, 0, 0),
  (42, .ireturn, 1, 43, .null, 0, 0, 0),
  (43, .aload_n 0, 1, 44, .null, 0, 0, 0),
  (44, .getfield 12, 3, 47, .null, 0, 0, 217),
  (47, .iload_n 2, 1, 48, .null, 0, 0, 0),
  (48, .invokevirtual 91, 3, 51, .null, 0, 0, 0),
  (51, .astore 4, 2, 53, .null, 0, 0, 0),
  (53, .aload 4, 2, 55, .null, 0, 0, 0),
  (55, .iload_n 1, 1, 56, .null, 0, 0, 0),
  (56, .iaload, 1, 57, .null, 0, 0, 0),
  (57, .istore 5, 2, 59, .null, 0, 0, 0),
  (59, .aload 4, 2, 61, .null, 0, 0, 0),
  (61, .iload_n 1, 1, 62, .null, 0, 0, 0),
  (62, .iload_n 3, 1, 63, .null, 0, 0, 0),
  (63, .iastore, 1, 64, .null, 0, 0, 0),
  (64, .iload 5, 2, 66, .null, 0, 0, 0),
  (66, .ireturn, 1, 67, .null, 0, 0, 0)]
set_option maxRecDepth 100000 in
theorem ek_K_wake : e_K_wake.all (eok 0 c_K_wake) = true := by decide +kernel
def F_K_wake_37 (t : Nat) (w : A_W) : Option (Int32 × A_W) :=
  (ob w t 0).bind fun o2 =>
  (F_K_finding t 0 w).bind fun p1 =>
  some (p1.1, p1.2)
def F_K_wake_0 (t : Nat) (x1 : Int32) (x2 : Int32) (x3 : Int32) (w : A_W) : Option (Int32 × A_W) :=
  (gr w t 0 0).bind fun a1 =>
  (ob w a1 2).bind fun o3 =>
  (F_R_hasGirl a1 x1 w).bind fun p2 =>
  if p2.1 = 0 then
    F_K_wake_37 t p2.2
  else
    (F_K_within x2 0 2 p2.2).bind fun p5 =>
    if p5.1 = 0 then
      F_K_wake_37 t p5.2
    else
      (rs 1 x2).bind fun v7 =>
      (rs 2 x2).bind fun v8 =>
      (F_K_within x3 v7 v8 p5.2).bind fun p9 =>
      if p9.1 = 0 then
        F_K_wake_37 t p9.2
      else
        (gr p9.2 t 0 0).bind fun a11 =>
        (ob p9.2 a11 2).bind fun o13 =>
        (F_R_girlRow a11 x2 p9.2).bind fun p12 =>
        (rd p12.2 p12.1 x1).bind fun v14 =>
        (wr p12.2 p12.1 x1 x3).bind fun w15 =>
        some (v14, w15)
set_option maxHeartbeats 4000000 in
set_option maxRecDepth 100000 in
theorem s_K_wake_37 {G : Gx} {X : Cx} {res : Int32 × A_W} (K : Ok G X 0 c_K_wake 6 (some .int) rm_K_wake) (hQ : QQ G X (some (.int res.1)) res.2 0 0) (t : Nat) (w : A_W) (h : F_K_wake_37 t w = some res) : Sm G X w 0 0 [some (.ref t), none, none, none, none, none] [] 37 := by
  unfold F_K_wake_37 at h
  refine Sm_run K ek_K_wake 19 2 rfl ?_
  obtain ⟨o2, e_o2, h⟩ := Option.bind_eq_some_iff.mp h
  obtain ⟨p1, e_p1, h⟩ := Option.bind_eq_some_iff.mp h
  refine Sm_callV K (eok_i (eo ek_K_wake (i := 21) rfl) rfl) cy_K_finding im_K_finding se_K_finding (lgm 249 (by decide +kernel) rfl) ⟨Nat.le_of_ble_eq_true rfl, Nat.le_of_ble_eq_true rfl⟩ (as := [.int 0]) (b := t) (st := []) (ob_e e_o2) (by decide) rfl rfl rfl rfl (Nat.le_of_ble_eq_true rfl) ⟨Nat.le_of_ble_eq_true rfl, Nat.le_of_ble_eq_true rfl⟩ (cn_K_finding e_p1) ?_
  refine Sm_eq (st1 := .int p1.1 :: []) (nc1 := 0) (ns1 := 0) rfl rfl rfl ?_
  obtain rfl := Option.some.inj h
  exact Sm_reti K hQ (eok_i (eo ek_K_wake (i := 22) rfl) rfl)
set_option maxHeartbeats 4000000 in
set_option maxRecDepth 100000 in
theorem s_K_wake_0 {G : Gx} {X : Cx} {res : Int32 × A_W} (K : Ok G X 0 c_K_wake 6 (some .int) rm_K_wake) (hQ : QQ G X (some (.int res.1)) res.2 0 0) (t : Nat) (x1 : Int32) (x2 : Int32) (x3 : Int32) (w : A_W) (h : F_K_wake_0 t x1 x2 x3 w = some res) : Sm G X w 0 0 [some (.ref t), some (.int x1), some (.int x2), some (.int x3), none, none] [] 0 := by
  unfold F_K_wake_0 at h
  refine Sm_run K ek_K_wake 0 1 rfl ?_
  obtain ⟨a1, e_a1, h⟩ := Option.bind_eq_some_iff.mp h
  refine Sm_gr K (eo ek_K_wake (i := 1) rfl) e_a1 ?_
  refine Sm_run K ek_K_wake 2 1 rfl ?_
  obtain ⟨o3, e_o3, h⟩ := Option.bind_eq_some_iff.mp h
  obtain ⟨p2, e_p2, h⟩ := Option.bind_eq_some_iff.mp h
  refine Sm_callV K (eok_i (eo ek_K_wake (i := 3) rfl) rfl) cy_R_hasGirl im_R_hasGirl se_R_hasGirl (lgm 337 (by decide +kernel) rfl) ⟨Nat.le_of_ble_eq_true rfl, Nat.le_of_ble_eq_true rfl⟩ (as := [.int x1]) (b := a1) (st := []) (ob_e e_o3) (by decide) rfl rfl rfl rfl (Nat.le_of_ble_eq_true rfl) ⟨Nat.le_of_ble_eq_true rfl, Nat.le_of_ble_eq_true rfl⟩ (cn_R_hasGirl e_p2) ?_
  refine Sm_eq (st1 := .int p2.1 :: []) (nc1 := 0) (ns1 := 0) rfl rfl rfl ?_
  refine Sm_if_eq K (eo ek_K_wake (i := 4) rfl) (fun c4 => ?_) (fun c4 => ?_)
  · rw [if_pos c4] at h
    exact Sm_le (leR_s (leR_n (leR_n (leR_n (leR_n (leR_n leR_nil)))))) (s_K_wake_37 K hQ _ _ h)
  · rw [if_neg c4] at h
    refine Sm_run K ek_K_wake 5 3 rfl ?_
    obtain ⟨p5, e_p5, h⟩ := Option.bind_eq_some_iff.mp h
    refine Sm_callS K (eok_i (eo ek_K_wake (i := 8) rfl) rfl) cy_K_within st_K_within (lgm 243 (by decide +kernel) rfl) ⟨Nat.le_of_ble_eq_true rfl, Nat.le_of_ble_eq_true rfl⟩ (as := [.int x2, .int 0, .int 2]) (st := []) rfl rfl rfl (Nat.le_of_ble_eq_true rfl) ⟨Nat.le_of_ble_eq_true rfl, Nat.le_of_ble_eq_true rfl⟩ (cn_K_within e_p5) ?_
    refine Sm_eq (st1 := .int p5.1 :: []) (nc1 := 0) (ns1 := 0) rfl rfl rfl ?_
    refine Sm_if_eq K (eo ek_K_wake (i := 9) rfl) (fun c6 => ?_) (fun c6 => ?_)
    · rw [if_pos c6] at h
      exact Sm_le (leR_s (leR_n (leR_n (leR_n (leR_n (leR_n leR_nil)))))) (s_K_wake_37 K hQ _ _ h)
    · rw [if_neg c6] at h
      refine Sm_run K ek_K_wake 10 3 rfl ?_
      obtain ⟨v7, e_v7, h⟩ := Option.bind_eq_some_iff.mp h
      refine Sm_rs K (eok_i (eo ek_K_wake (i := 13) rfl) rfl) e_v7 ?_
      refine Sm_run K ek_K_wake 14 2 rfl ?_
      obtain ⟨v8, e_v8, h⟩ := Option.bind_eq_some_iff.mp h
      refine Sm_rs K (eok_i (eo ek_K_wake (i := 16) rfl) rfl) e_v8 ?_
      obtain ⟨p9, e_p9, h⟩ := Option.bind_eq_some_iff.mp h
      refine Sm_callS K (eok_i (eo ek_K_wake (i := 17) rfl) rfl) cy_K_within st_K_within (lgm 243 (by decide +kernel) rfl) ⟨Nat.le_of_ble_eq_true rfl, Nat.le_of_ble_eq_true rfl⟩ (as := [.int x3, .int v7, .int v8]) (st := []) rfl rfl rfl (Nat.le_of_ble_eq_true rfl) ⟨Nat.le_of_ble_eq_true rfl, Nat.le_of_ble_eq_true rfl⟩ (cn_K_within e_p9) ?_
      refine Sm_eq (st1 := .int p9.1 :: []) (nc1 := 0) (ns1 := 0) rfl rfl rfl ?_
      refine Sm_if_ne K (eo ek_K_wake (i := 18) rfl) (fun c10 => ?_) (fun c10 => ?_)
      · rw [if_neg c10] at h
        refine Sm_run K ek_K_wake 23 1 rfl ?_
        obtain ⟨a11, e_a11, h⟩ := Option.bind_eq_some_iff.mp h
        refine Sm_gr K (eo ek_K_wake (i := 24) rfl) e_a11 ?_
        refine Sm_run K ek_K_wake 25 1 rfl ?_
        obtain ⟨o13, e_o13, h⟩ := Option.bind_eq_some_iff.mp h
        obtain ⟨p12, e_p12, h⟩ := Option.bind_eq_some_iff.mp h
        refine Sm_callV K (eok_i (eo ek_K_wake (i := 26) rfl) rfl) cy_R_girlRow im_R_girlRow se_R_girlRow (lgm 341 (by decide +kernel) rfl) ⟨Nat.le_of_ble_eq_true rfl, Nat.le_of_ble_eq_true rfl⟩ (as := [.int x2]) (b := a11) (st := []) (ob_e e_o13) (by decide) rfl rfl rfl rfl (Nat.le_of_ble_eq_true rfl) ⟨Nat.le_of_ble_eq_true rfl, Nat.le_of_ble_eq_true rfl⟩ (cn_R_girlRow e_p12) ?_
        refine Sm_eq (st1 := .ref p12.1 :: []) (nc1 := 0) (ns1 := 0) rfl rfl rfl ?_
        refine Sm_run K ek_K_wake 27 3 rfl ?_
        obtain ⟨v14, e_v14, h⟩ := Option.bind_eq_some_iff.mp h
        refine Sm_rd K (eok_i (eo ek_K_wake (i := 30) rfl) rfl) e_v14 ?_
        refine Sm_run K ek_K_wake 31 4 rfl ?_
        obtain ⟨w15, e_w15, h⟩ := Option.bind_eq_some_iff.mp h
        refine Sm_wr K (eok_i (eo ek_K_wake (i := 35) rfl) rfl) e_w15 ?_
        refine Sm_run K ek_K_wake 36 1 rfl ?_
        obtain rfl := Option.some.inj h
        exact Sm_reti K hQ (eok_i (eo ek_K_wake (i := 37) rfl) rfl)
      · rw [if_pos c10] at h
        exact Sm_le (leR_s (leR_n (leR_n (leR_n (leR_n (leR_n leR_nil)))))) (s_K_wake_37 K hQ _ _ h)
def F_K_wake (t : Nat) (x1 : Int32) (x2 : Int32) (x3 : Int32) (w : A_W) : Option (Int32 × A_W) := F_K_wake_0 t x1 x2 x3 w
theorem cn_K_wake {G : Gx} {t : Nat} {x1 : Int32} {x2 : Int32} {x3 : Int32} {w : A_W} {res : Int32 × A_W} (h : F_K_wake t x1 x2 x3 w = some res) : Cn G y_K_wake c_K_wake 6 (some .int) rm_K_wake [.ref t, .int x1, .int x2, .int x3] w (some (.int res.1)) res.2 :=
  Cn_of (own := 0) cy_K_wake rfl rfl (Nat.le_of_ble_eq_true rfl) rfl (fun X K _ hQ => Sm_le (leR_s (leR_s (leR_s (leR_s (leR_n (leR_n leR_nil)))))) (s_K_wake_0 K hQ _ _ _ _ _ h))
/-! EveningCloak.light(I)I -/
abbrev c_K_light : ByteArray := prog_1_method_10_code
def y_K_light : MethodName := ⟨"EveningCloak", "light", "(I)I"⟩
def rm_K_light : Room := { frames := 3, cells := 0, slots := 0, locals := 68 }
theorem cy_K_light : Cy y_K_light c_K_light 2 (some .int) 1 := ⟨lgm 356 (by decide +kernel) rfl, lgm 68 (by decide +kernel) rfl, by decide +kernel, by decide +kernel⟩
theorem im_K_light : Cond.instanceMethod y_K_light ∈ lg := lgm 354 (by decide +kernel) rfl
theorem se_K_light : Cond.selects y_K_light.cls y_K_light y_K_light ∈ lg := lgm 355 (by decide +kernel) rfl
def e_K_light : List Ent := [
  (0, .iload_n 1, 1, 1, .null, 0, 0, 0),
  (1, .invokestatic 44, 3, 4, .null, 0, 0, 0),
  (4, .ifCond .eq 14, 3, 18, .null, 0, 0, 0),
  (7, .aload_n 0, 1, 8, .null, 0, 0, 0),
  (8, .getfield 12, 3, 11, .null, 0, 0, 217),
  (11, .iload_n 1, 1, 12, .null, 0, 0, 0),
  (12, .invokevirtual 100, 3, 15, .null, 0, 0, 0),
  (15, .goto 8, 3, 23, .null, 0, 0, 0),
  (18, .aload_n 0, 1, 19, .null, 0, 0, 0),
  (19, .iconst 0, 1, 20, .int 0, 0, 0, 0),
  (20, .invokevirtual 48, 3, 23, .null, 0, 0, 0),
  (23, .ireturn, 1, 24, .null, 0, 0, 0)]
set_option maxRecDepth 100000 in
theorem ek_K_light : e_K_light.all (eok 0 c_K_light) = true := by decide +kernel
def F_K_light_23 (y0 : Int32) (w : A_W) : Option (Int32 × A_W) :=
  some (y0, w)
def F_K_light_0 (t : Nat) (x1 : Int32) (w : A_W) : Option (Int32 × A_W) :=
  (F_K_isHanger x1 w).bind fun p1 =>
  if p1.1 = 0 then
    (ob p1.2 t 0).bind fun o4 =>
    (F_K_finding t 0 p1.2).bind fun p3 =>
    F_K_light_23 p3.1 p3.2
  else
    (gr p1.2 t 0 0).bind fun a5 =>
    (ob p1.2 a5 2).bind fun o7 =>
    (F_R_lightAt a5 x1 p1.2).bind fun p6 =>
    F_K_light_23 p6.1 p6.2
set_option maxHeartbeats 4000000 in
set_option maxRecDepth 100000 in
theorem s_K_light_23 {G : Gx} {X : Cx} {res : Int32 × A_W} (K : Ok G X 0 c_K_light 2 (some .int) rm_K_light) (hQ : QQ G X (some (.int res.1)) res.2 0 0) (y0 : Int32) (w : A_W) (h : F_K_light_23 y0 w = some res) : Sm G X w 0 0 [none, none] [.int y0] 23 := by
  unfold F_K_light_23 at h
  obtain rfl := Option.some.inj h
  exact Sm_reti K hQ (eok_i (eo ek_K_light (i := 11) rfl) rfl)
set_option maxHeartbeats 4000000 in
set_option maxRecDepth 100000 in
theorem s_K_light_0 {G : Gx} {X : Cx} {res : Int32 × A_W} (K : Ok G X 0 c_K_light 2 (some .int) rm_K_light) (hQ : QQ G X (some (.int res.1)) res.2 0 0) (t : Nat) (x1 : Int32) (w : A_W) (h : F_K_light_0 t x1 w = some res) : Sm G X w 0 0 [some (.ref t), some (.int x1)] [] 0 := by
  unfold F_K_light_0 at h
  refine Sm_run K ek_K_light 0 1 rfl ?_
  obtain ⟨p1, e_p1, h⟩ := Option.bind_eq_some_iff.mp h
  refine Sm_callS K (eok_i (eo ek_K_light (i := 1) rfl) rfl) cy_K_isHanger st_K_isHanger (lgm 246 (by decide +kernel) rfl) ⟨Nat.le_of_ble_eq_true rfl, Nat.le_of_ble_eq_true rfl⟩ (as := [.int x1]) (st := []) rfl rfl rfl (Nat.le_of_ble_eq_true rfl) ⟨Nat.le_of_ble_eq_true rfl, Nat.le_of_ble_eq_true rfl⟩ (cn_K_isHanger e_p1) ?_
  refine Sm_eq (st1 := .int p1.1 :: []) (nc1 := 0) (ns1 := 0) rfl rfl rfl ?_
  refine Sm_if_eq K (eo ek_K_light (i := 2) rfl) (fun c2 => ?_) (fun c2 => ?_)
  · rw [if_pos c2] at h
    refine Sm_run K ek_K_light 8 2 rfl ?_
    obtain ⟨o4, e_o4, h⟩ := Option.bind_eq_some_iff.mp h
    obtain ⟨p3, e_p3, h⟩ := Option.bind_eq_some_iff.mp h
    refine Sm_callV K (eok_i (eo ek_K_light (i := 10) rfl) rfl) cy_K_finding im_K_finding se_K_finding (lgm 249 (by decide +kernel) rfl) ⟨Nat.le_of_ble_eq_true rfl, Nat.le_of_ble_eq_true rfl⟩ (as := [.int 0]) (b := t) (st := []) (ob_e e_o4) (by decide) rfl rfl rfl rfl (Nat.le_of_ble_eq_true rfl) ⟨Nat.le_of_ble_eq_true rfl, Nat.le_of_ble_eq_true rfl⟩ (cn_K_finding e_p3) ?_
    refine Sm_eq (st1 := .int p3.1 :: []) (nc1 := 0) (ns1 := 0) rfl rfl rfl ?_
    exact Sm_le (leR_n (leR_n leR_nil)) (s_K_light_23 K hQ _ _ h)
  · rw [if_neg c2] at h
    refine Sm_run K ek_K_light 3 1 rfl ?_
    obtain ⟨a5, e_a5, h⟩ := Option.bind_eq_some_iff.mp h
    refine Sm_gr K (eo ek_K_light (i := 4) rfl) e_a5 ?_
    refine Sm_run K ek_K_light 5 1 rfl ?_
    obtain ⟨o7, e_o7, h⟩ := Option.bind_eq_some_iff.mp h
    obtain ⟨p6, e_p6, h⟩ := Option.bind_eq_some_iff.mp h
    refine Sm_callV K (eok_i (eo ek_K_light (i := 6) rfl) rfl) cy_R_lightAt im_R_lightAt se_R_lightAt (lgm 357 (by decide +kernel) rfl) ⟨Nat.le_of_ble_eq_true rfl, Nat.le_of_ble_eq_true rfl⟩ (as := [.int x1]) (b := a5) (st := []) (ob_e e_o7) (by decide) rfl rfl rfl rfl (Nat.le_of_ble_eq_true rfl) ⟨Nat.le_of_ble_eq_true rfl, Nat.le_of_ble_eq_true rfl⟩ (cn_R_lightAt e_p6) ?_
    refine Sm_eq (st1 := .int p6.1 :: []) (nc1 := 0) (ns1 := 0) rfl rfl rfl ?_
    refine Sm_run K ek_K_light 7 1 rfl ?_
    exact Sm_le (leR_n (leR_n leR_nil)) (s_K_light_23 K hQ _ _ h)
def F_K_light (t : Nat) (x1 : Int32) (w : A_W) : Option (Int32 × A_W) := F_K_light_0 t x1 w
theorem cn_K_light {G : Gx} {t : Nat} {x1 : Int32} {w : A_W} {res : Int32 × A_W} (h : F_K_light t x1 w = some res) : Cn G y_K_light c_K_light 2 (some .int) rm_K_light [.ref t, .int x1] w (some (.int res.1)) res.2 :=
  Cn_of (own := 0) cy_K_light rfl rfl (Nat.le_of_ble_eq_true rfl) rfl (fun X K _ hQ => Sm_le (leR_s (leR_s leR_nil)) (s_K_light_0 K hQ _ _ _ h))
/-! EveningCloak.call(I)I -/
abbrev c_K_call : ByteArray := prog_1_method_11_code
def y_K_call : MethodName := ⟨"EveningCloak", "call", "(I)I"⟩
def rm_K_call : Room := { frames := 1, cells := 0, slots := 0, locals := 22 }
theorem cy_K_call : Cy y_K_call c_K_call 3 (some .int) 1 := ⟨lgm 361 (by decide +kernel) rfl, lgm 68 (by decide +kernel) rfl, by decide +kernel, by decide +kernel⟩
theorem im_K_call : Cond.instanceMethod y_K_call ∈ lg := lgm 359 (by decide +kernel) rfl
theorem se_K_call : Cond.selects y_K_call.cls y_K_call y_K_call ∈ lg := lgm 360 (by decide +kernel) rfl
def e_K_call : List Ent := [
  (0, .iload_n 1, 1, 1, .null, 0, 0, 0),
  (1, .iconst 0, 1, 2, .int 0, 0, 0, 0),
  (2, .bipush 99, 2, 4, .int 99, 0, 0, 0),
  (4, .invokestatic 40, 3, 7, .null, 0, 0, 0),
  (7, .ifCond .ne 9, 3, 16, .null, 0, 0, 0),
  (10, .aload_n 0, 1, 11, .null, 0, 0, 0),
  (11, .iconst 0, 1, 12, .int 0, 0, 0, 0),
  (12, .invokevirtual 48, 3, 15, .null, 0, 0, 0),
  (15, .ireturn, 1, 16, .null, 0, 0, 0),
  (16, .iconst 0, 1, 17, .int 0, 0, 0, 0),
  (17, .istore_n 2, 1, 18, .null, 0, 0, 0),
  (18, .iload_n 2, 1, 19, .null, 0, 0, 0),
  (19, .aload_n 0, 1, 20, .null, 0, 0, 0),
  (20, .getfield 12, 3, 23, .null, 0, 0, 217),
  (23, .getfield 62, 3, 26, .null, 2, 3, 105),
  (26, .if_icmp .ge 46, 3, 72, .null, 0, 0, 0),
  (29, .aload_n 0, 1, 30, .null, 0, 0, 0),
  (30, .getfield 12, 3, 33, .null, 0, 0, 217),
  (33, .getfield 103, 3, 36, .null, 2, 8, 119),
  (36, .iload_n 2, 1, 37, .null, 0, 0, 0),
  (37, .iaload, 1, 38, .null, 0, 0, 0),
  (38, .iload_n 1, 1, 39, .null, 0, 0, 0),
  (39, .if_icmp .ne 27, 3, 66, .null, 0, 0, 0),
  (42, .aload_n 0, 1, 43, .null, 0, 0, 0),
  (43, .getfield 12, 3, 46, .null, 0, 0, 217),
  (46, .getfield 106, 3, 49, .null, 2, 11, 127),
  (49, .iload_n 2, 1, 50, .null, 0, 0, 0),
  (50, .iaload, 1, 51, .null, 0, 0, 0),
  (51, .ifCond .ne 15, 3, 66, .null, 0, 0, 0),
  (54, .aload_n 0, 1, 55, .null, 0, 0, 0),
  (55, .getfield 12, 3, 58, .null, 0, 0, 217),
  (58, .getfield 106, 3, 61, .null, 2, 11, 127),
  (61, .iload_n 2, 1, 62, .null, 0, 0, 0),
  (62, .iconst 1, 1, 63, .int 1, 0, 0, 0),
  (63, .iastore, 1, 64, .null, 0, 0, 0),
  (64, .iload_n 2, 1, 65, .null, 0, 0, 0),
  (65, .ireturn, 1, 66, .null, 0, 0, 0),
  (66, .iinc 2 1, 3, 69, .int 1, 0, 0, 0),
  (69, .goto (-51), 3, 18, .null, 0, 0, 0),
  (72, .aload_n 0, 1, 73, .null, 0, 0, 0),
  (73, .iconst 3, 1, 74, .int 3, 0, 0, 0),
  (74, .invokevirtual 48, 3, 77, .null, 0, 0, 0),
  (77, .ireturn, 1, 78, .null, 0, 0, 0)]
set_option maxRecDepth 100000 in
theorem ek_K_call : e_K_call.all (eok 0 c_K_call) = true := by decide +kernel
def F_K_call_66 (k18 : Nat → Int32 → Int32 → A_W → Option (Int32 × A_W)) (t : Nat) (x1 : Int32) (x2 : Int32) (w : A_W) : Option (Int32 × A_W) :=
  k18 t x1 (x2 + 1) w
def F_K_call_18 : Nat → Nat → Int32 → Int32 → A_W → Option (Int32 × A_W)
  | 0, _, _, _, _ => none
  | n + 1, t, x1, x2, w =>
    (gr w t 0 0).bind fun a1 =>
    (gi w a1 2 3).bind fun v2 =>
    if v2 ≤ x2 then
      (ob w t 0).bind fun o5 =>
      (F_K_finding t 3 w).bind fun p4 =>
      some (p4.1, p4.2)
    else
      (gr w t 0 0).bind fun a6 =>
      (gr w a6 2 8).bind fun a7 =>
      (rd w a7 x2).bind fun v8 =>
      if v8 = x1 then
        (gr w t 0 0).bind fun a10 =>
        (gr w a10 2 11).bind fun a11 =>
        (rd w a11 x2).bind fun v12 =>
        if v12 = 0 then
          (gr w t 0 0).bind fun a14 =>
          (gr w a14 2 11).bind fun a15 =>
          (wr w a15 x2 1).bind fun w16 =>
          some (x2, w16)
        else
          F_K_call_66 (F_K_call_18 n) t x1 x2 w
      else
        F_K_call_66 (F_K_call_18 n) t x1 x2 w
def F_K_call_0 (t : Nat) (x1 : Int32) (w : A_W) : Option (Int32 × A_W) :=
  (F_K_within x1 0 99 w).bind fun p1 =>
  if p1.1 = 0 then
    (ob p1.2 t 0).bind fun o4 =>
    (F_K_finding t 0 p1.2).bind fun p3 =>
    some (p3.1, p3.2)
  else
    F_K_call_18 FU t x1 0 p1.2
set_option maxHeartbeats 4000000 in
set_option maxRecDepth 100000 in
theorem s_K_call_66 {G : Gx} {X : Cx} {res : Int32 × A_W} (K : Ok G X 0 c_K_call 3 (some .int) rm_K_call) (hQ : QQ G X (some (.int res.1)) res.2 0 0) {k18 : Nat → Int32 → Int32 → A_W → Option (Int32 × A_W)} (hk18 : ∀ (t : Nat) (x1 : Int32) (x2 : Int32) (w : A_W), k18 t x1 x2 w = some res → Sm G X w 0 0 [some (.ref t), some (.int x1), some (.int x2)] [] 18) (t : Nat) (x1 : Int32) (x2 : Int32) (w : A_W) (h : F_K_call_66 k18 t x1 x2 w = some res) : Sm G X w 0 0 [some (.ref t), some (.int x1), some (.int x2)] [] 66 := by
  unfold F_K_call_66 at h
  refine Sm_run K ek_K_call 37 2 rfl ?_
  exact Sm_le (leR_s (leR_s (leR_s leR_nil))) (hk18 _ _ _ _ h)
set_option maxHeartbeats 4000000 in
set_option maxRecDepth 100000 in
theorem s_K_call_18 {G : Gx} {X : Cx} {res : Int32 × A_W} (K : Ok G X 0 c_K_call 3 (some .int) rm_K_call) (hQ : QQ G X (some (.int res.1)) res.2 0 0) : ∀ (n : Nat) (t : Nat) (x1 : Int32) (x2 : Int32) (w : A_W), F_K_call_18 n t x1 x2 w = some res → Sm G X w 0 0 [some (.ref t), some (.int x1), some (.int x2)] [] 18 := by
  intro n
  induction n with
  | zero => intro t x1 x2 w h; cases h
  | succ n ih =>
    intro t x1 x2 w h
    rw [F_K_call_18] at h
    refine Sm_run K ek_K_call 11 2 rfl ?_
    obtain ⟨a1, e_a1, h⟩ := Option.bind_eq_some_iff.mp h
    refine Sm_gr K (eo ek_K_call (i := 13) rfl) e_a1 ?_
    obtain ⟨v2, e_v2, h⟩ := Option.bind_eq_some_iff.mp h
    refine Sm_gi K (eo ek_K_call (i := 14) rfl) e_v2 ?_
    refine Sm_ic_ge K (eo ek_K_call (i := 15) rfl) (fun c3 => ?_) (fun c3 => ?_)
    · rw [if_pos c3] at h
      refine Sm_run K ek_K_call 39 2 rfl ?_
      obtain ⟨o5, e_o5, h⟩ := Option.bind_eq_some_iff.mp h
      obtain ⟨p4, e_p4, h⟩ := Option.bind_eq_some_iff.mp h
      refine Sm_callV K (eok_i (eo ek_K_call (i := 41) rfl) rfl) cy_K_finding im_K_finding se_K_finding (lgm 249 (by decide +kernel) rfl) ⟨Nat.le_of_ble_eq_true rfl, Nat.le_of_ble_eq_true rfl⟩ (as := [.int 3]) (b := t) (st := []) (ob_e e_o5) (by decide) rfl rfl rfl rfl (Nat.le_of_ble_eq_true rfl) ⟨Nat.le_of_ble_eq_true rfl, Nat.le_of_ble_eq_true rfl⟩ (cn_K_finding e_p4) ?_
      refine Sm_eq (st1 := .int p4.1 :: []) (nc1 := 0) (ns1 := 0) rfl rfl rfl ?_
      obtain rfl := Option.some.inj h
      exact Sm_reti K hQ (eok_i (eo ek_K_call (i := 42) rfl) rfl)
    · rw [if_neg c3] at h
      refine Sm_run K ek_K_call 16 1 rfl ?_
      obtain ⟨a6, e_a6, h⟩ := Option.bind_eq_some_iff.mp h
      refine Sm_gr K (eo ek_K_call (i := 17) rfl) e_a6 ?_
      obtain ⟨a7, e_a7, h⟩ := Option.bind_eq_some_iff.mp h
      refine Sm_gr K (eo ek_K_call (i := 18) rfl) e_a7 ?_
      refine Sm_run K ek_K_call 19 1 rfl ?_
      obtain ⟨v8, e_v8, h⟩ := Option.bind_eq_some_iff.mp h
      refine Sm_rd K (eok_i (eo ek_K_call (i := 20) rfl) rfl) e_v8 ?_
      refine Sm_run K ek_K_call 21 1 rfl ?_
      refine Sm_ic_ne K (eo ek_K_call (i := 22) rfl) (fun c9 => ?_) (fun c9 => ?_)
      · rw [if_neg c9] at h
        exact Sm_le (leR_s (leR_s (leR_s leR_nil))) (s_K_call_66 K hQ ih _ _ _ _ h)
      · rw [if_pos c9] at h
        refine Sm_run K ek_K_call 23 1 rfl ?_
        obtain ⟨a10, e_a10, h⟩ := Option.bind_eq_some_iff.mp h
        refine Sm_gr K (eo ek_K_call (i := 24) rfl) e_a10 ?_
        obtain ⟨a11, e_a11, h⟩ := Option.bind_eq_some_iff.mp h
        refine Sm_gr K (eo ek_K_call (i := 25) rfl) e_a11 ?_
        refine Sm_run K ek_K_call 26 1 rfl ?_
        obtain ⟨v12, e_v12, h⟩ := Option.bind_eq_some_iff.mp h
        refine Sm_rd K (eok_i (eo ek_K_call (i := 27) rfl) rfl) e_v12 ?_
        refine Sm_if_ne K (eo ek_K_call (i := 28) rfl) (fun c13 => ?_) (fun c13 => ?_)
        · rw [if_neg c13] at h
          exact Sm_le (leR_s (leR_s (leR_s leR_nil))) (s_K_call_66 K hQ ih _ _ _ _ h)
        · rw [if_pos c13] at h
          refine Sm_run K ek_K_call 29 1 rfl ?_
          obtain ⟨a14, e_a14, h⟩ := Option.bind_eq_some_iff.mp h
          refine Sm_gr K (eo ek_K_call (i := 30) rfl) e_a14 ?_
          obtain ⟨a15, e_a15, h⟩ := Option.bind_eq_some_iff.mp h
          refine Sm_gr K (eo ek_K_call (i := 31) rfl) e_a15 ?_
          refine Sm_run K ek_K_call 32 2 rfl ?_
          obtain ⟨w16, e_w16, h⟩ := Option.bind_eq_some_iff.mp h
          refine Sm_wr K (eok_i (eo ek_K_call (i := 34) rfl) rfl) e_w16 ?_
          refine Sm_run K ek_K_call 35 1 rfl ?_
          obtain rfl := Option.some.inj h
          exact Sm_reti K hQ (eok_i (eo ek_K_call (i := 36) rfl) rfl)
set_option maxHeartbeats 4000000 in
set_option maxRecDepth 100000 in
theorem s_K_call_0 {G : Gx} {X : Cx} {res : Int32 × A_W} (K : Ok G X 0 c_K_call 3 (some .int) rm_K_call) (hQ : QQ G X (some (.int res.1)) res.2 0 0) (t : Nat) (x1 : Int32) (w : A_W) (h : F_K_call_0 t x1 w = some res) : Sm G X w 0 0 [some (.ref t), some (.int x1), none] [] 0 := by
  unfold F_K_call_0 at h
  refine Sm_run K ek_K_call 0 3 rfl ?_
  obtain ⟨p1, e_p1, h⟩ := Option.bind_eq_some_iff.mp h
  refine Sm_callS K (eok_i (eo ek_K_call (i := 3) rfl) rfl) cy_K_within st_K_within (lgm 243 (by decide +kernel) rfl) ⟨Nat.le_of_ble_eq_true rfl, Nat.le_of_ble_eq_true rfl⟩ (as := [.int x1, .int 0, .int 99]) (st := []) rfl rfl rfl (Nat.le_of_ble_eq_true rfl) ⟨Nat.le_of_ble_eq_true rfl, Nat.le_of_ble_eq_true rfl⟩ (cn_K_within e_p1) ?_
  refine Sm_eq (st1 := .int p1.1 :: []) (nc1 := 0) (ns1 := 0) rfl rfl rfl ?_
  refine Sm_if_ne K (eo ek_K_call (i := 4) rfl) (fun c2 => ?_) (fun c2 => ?_)
  · rw [if_neg c2] at h
    refine Sm_run K ek_K_call 9 2 rfl ?_
    exact Sm_le (leR_s (leR_s (leR_s leR_nil))) (s_K_call_18 K hQ FU _ _ _ _ h)
  · rw [if_pos c2] at h
    refine Sm_run K ek_K_call 5 2 rfl ?_
    obtain ⟨o4, e_o4, h⟩ := Option.bind_eq_some_iff.mp h
    obtain ⟨p3, e_p3, h⟩ := Option.bind_eq_some_iff.mp h
    refine Sm_callV K (eok_i (eo ek_K_call (i := 7) rfl) rfl) cy_K_finding im_K_finding se_K_finding (lgm 249 (by decide +kernel) rfl) ⟨Nat.le_of_ble_eq_true rfl, Nat.le_of_ble_eq_true rfl⟩ (as := [.int 0]) (b := t) (st := []) (ob_e e_o4) (by decide) rfl rfl rfl rfl (Nat.le_of_ble_eq_true rfl) ⟨Nat.le_of_ble_eq_true rfl, Nat.le_of_ble_eq_true rfl⟩ (cn_K_finding e_p3) ?_
    refine Sm_eq (st1 := .int p3.1 :: []) (nc1 := 0) (ns1 := 0) rfl rfl rfl ?_
    obtain rfl := Option.some.inj h
    exact Sm_reti K hQ (eok_i (eo ek_K_call (i := 8) rfl) rfl)
def F_K_call (t : Nat) (x1 : Int32) (w : A_W) : Option (Int32 × A_W) := F_K_call_0 t x1 w
theorem cn_K_call {G : Gx} {t : Nat} {x1 : Int32} {w : A_W} {res : Int32 × A_W} (h : F_K_call t x1 w = some res) : Cn G y_K_call c_K_call 3 (some .int) rm_K_call [.ref t, .int x1] w (some (.int res.1)) res.2 :=
  Cn_of (own := 0) cy_K_call rfl rfl (Nat.le_of_ble_eq_true rfl) rfl (fun X K _ hQ => Sm_le (leR_s (leR_s (leR_n leR_nil))) (s_K_call_0 K hQ _ _ _ h))
/-! EveningCloak$Room.girlOfDay()I -/
abbrev c_R_girlOfDay : ByteArray := prog_3_method_18_code
def y_R_girlOfDay : MethodName := ⟨"EveningCloak$Room", "girlOfDay", "()I"⟩
def rm_R_girlOfDay : Room := { frames := 0, cells := 0, slots := 0, locals := 0 }
theorem cy_R_girlOfDay : Cy y_R_girlOfDay c_R_girlOfDay 1 (some .int) 0 := ⟨lgm 378 (by decide +kernel) rfl, lgm 69 (by decide +kernel) rfl, by decide +kernel, by decide +kernel⟩
theorem im_R_girlOfDay : Cond.instanceMethod y_R_girlOfDay ∈ lg := lgm 376 (by decide +kernel) rfl
theorem se_R_girlOfDay : Cond.selects y_R_girlOfDay.cls y_R_girlOfDay y_R_girlOfDay ∈ lg := lgm 377 (by decide +kernel) rfl
def e_R_girlOfDay : List Ent := [
  (0, .aload_n 0, 1, 1, .null, 0, 0, 0),
  (1, .getfield 15, 3, 4, .null, 2, 5, 110),
  (4, .aload_n 0, 1, 5, .null, 0, 0, 0),
  (5, .getfield 55, 3, 8, .null, 2, 0, 98),
  (8, .bipush 6, 2, 10, .int 6, 0, 0, 0),
  (10, .irem, 1, 11, .null, 0, 0, 0),
  (11, .iaload, 1, 12, .null, 0, 0, 0),
  (12, .bipush 100, 2, 14, .int 100, 0, 0, 0),
  (14, .idiv, 1, 15, .null, 0, 0, 0),
  (15, .ireturn, 1, 16, .null, 0, 0, 0)]
set_option maxRecDepth 100000 in
theorem ek_R_girlOfDay : e_R_girlOfDay.all (eok 2 c_R_girlOfDay) = true := by decide +kernel
def F_R_girlOfDay_0 (t : Nat) (w : A_W) : Option (Int32 × A_W) :=
  (gr w t 2 5).bind fun a1 =>
  (gi w t 2 0).bind fun v2 =>
  (rd w a1 (jrem v2 6)).bind fun v3 =>
  some ((v3 / 100), w)
set_option maxHeartbeats 4000000 in
set_option maxRecDepth 100000 in
theorem s_R_girlOfDay_0 {G : Gx} {X : Cx} {res : Int32 × A_W} (K : Ok G X 2 c_R_girlOfDay 1 (some .int) rm_R_girlOfDay) (hQ : QQ G X (some (.int res.1)) res.2 0 0) (t : Nat) (w : A_W) (h : F_R_girlOfDay_0 t w = some res) : Sm G X w 0 0 [some (.ref t)] [] 0 := by
  unfold F_R_girlOfDay_0 at h
  refine Sm_run K ek_R_girlOfDay 0 1 rfl ?_
  obtain ⟨a1, e_a1, h⟩ := Option.bind_eq_some_iff.mp h
  refine Sm_gr K (eo ek_R_girlOfDay (i := 1) rfl) e_a1 ?_
  refine Sm_run K ek_R_girlOfDay 2 1 rfl ?_
  obtain ⟨v2, e_v2, h⟩ := Option.bind_eq_some_iff.mp h
  refine Sm_gi K (eo ek_R_girlOfDay (i := 3) rfl) e_v2 ?_
  refine Sm_run K ek_R_girlOfDay 4 1 rfl ?_
  refine Sm_irem K (eok_i (eo ek_R_girlOfDay (i := 5) rfl) rfl) (by decide) ?_
  obtain ⟨v3, e_v3, h⟩ := Option.bind_eq_some_iff.mp h
  refine Sm_rd K (eok_i (eo ek_R_girlOfDay (i := 6) rfl) rfl) e_v3 ?_
  refine Sm_run K ek_R_girlOfDay 7 1 rfl ?_
  refine Sm_idiv K (eok_i (eo ek_R_girlOfDay (i := 8) rfl) rfl) (by decide) ?_
  obtain rfl := Option.some.inj h
  exact Sm_reti K hQ (eok_i (eo ek_R_girlOfDay (i := 9) rfl) rfl)
def F_R_girlOfDay (t : Nat) (w : A_W) : Option (Int32 × A_W) := F_R_girlOfDay_0 t w
theorem cn_R_girlOfDay {G : Gx} {t : Nat} {w : A_W} {res : Int32 × A_W} (h : F_R_girlOfDay t w = some res) : Cn G y_R_girlOfDay c_R_girlOfDay 1 (some .int) rm_R_girlOfDay [.ref t] w (some (.int res.1)) res.2 :=
  Cn_of (own := 2) cy_R_girlOfDay rfl rfl (Nat.le_of_ble_eq_true rfl) rfl (fun X K _ hQ => Sm_le (leR_s leR_nil) (s_R_girlOfDay_0 K hQ _ _ h))
/-! EveningCloak$Room.letStand()V -/
abbrev c_R_letStand : ByteArray := prog_3_method_19_code
def y_R_letStand : MethodName := ⟨"EveningCloak$Room", "letStand", "()V"⟩
def rm_R_letStand : Room := { frames := 3, cells := 0, slots := 0, locals := 68 }
theorem cy_R_letStand : Cy y_R_letStand c_R_letStand 2 (none) 0 := ⟨lgm 374 (by decide +kernel) rfl, lgm 69 (by decide +kernel) rfl, by decide +kernel, by decide +kernel⟩
theorem im_R_letStand : Cond.instanceMethod y_R_letStand ∈ lg := lgm 372 (by decide +kernel) rfl
theorem se_R_letStand : Cond.selects y_R_letStand.cls y_R_letStand y_R_letStand ∈ lg := lgm 373 (by decide +kernel) rfl
def e_R_letStand : List Ent := [
  (0, .aload_n 0, 1, 1, .null, 0, 0, 0),
  (1, .invokevirtual 120, 3, 4, .null, 0, 0, 0),
  (4, .istore_n 1, 1, 5, .null, 0, 0, 0),
  (5, .iload_n 1, 1, 6, .null, 0, 0, 0),
  (6, .aload_n 0, 1, 7, .null, 0, 0, 0),
  (7, .getfield 64, 3, 10, .null, 2, 4, 107),
  (10, .if_icmp .lt 4, 3, 14, .null, 0, 0, 0),
  (13, .return_, 1, 14, .null, 0, 0, 0),
  (14, .aload_n 0, 1, 15, .null, 0, 0, 0),
  (15, .getfield 37, 3, 18, .null, 2, 12, 128),
  (18, .iload_n 1, 1, 19, .null, 0, 0, 0),
  (19, .aload_n 0, 1, 20, .null, 0, 0, 0),
  (20, .getfield 37, 3, 23, .null, 2, 12, 128),
  (23, .iload_n 1, 1, 24, .null, 0, 0, 0),
  (24, .iaload, 1, 25, .null, 0, 0, 0),
  (25, .aload_n 0, 1, 26, .null, 0, 0, 0),
  (26, .aload_n 0, 1, 27, .null, 0, 0, 0),
  (27, .getfield 15, 3, 30, .null, 2, 5, 110),
  (30, .aload_n 0, 1, 31, .null, 0, 0, 0),
  (31, .getfield 55, 3, 34, .null, 2, 0, 98),
  (34, .bipush 6, 2, 36, .int 6, 0, 0, 0),
  (36, .irem, 1, 37, .null, 0, 0, 0),
  (37, .iaload, 1, 38, .null, 0, 0, 0),
  (38, .bipush 100, 2, 40, .int 100, 0, 0, 0),
  (40, .irem, 1, 41, .null, 0, 0, 0),
  (41, .invokevirtual 103, 3, 44, .null, 0, 0, 0),
  (44, .iadd, 1, 45, .null, 0, 0, 0),
  (45, .bipush 99, 2, 47, .int 99, 0, 0, 0),
  (47, .invokestatic 98, 3, 50, .null, 0, 0, 0),
  (50, .iastore, 1, 51, .null, 0, 0, 0),
  (51, .aload_n 0, 1, 52, .null, 0, 0, 0),
  (52, .getfield 37, 3, 55, .null, 2, 12, 128),
  (55, .iload_n 1, 1, 56, .null, 0, 0, 0),
  (56, .iaload, 1, 57, .null, 0, 0, 0),
  (57, .aload_n 0, 1, 58, .null, 0, 0, 0),
  (58, .getfield 40, 3, 61, .null, 2, 13, 130),
  (61, .iload_n 1, 1, 62, .null, 0, 0, 0),
  (62, .iaload, 1, 63, .null, 0, 0, 0),
  (63, .if_icmp .lt 30, 3, 93, .null, 0, 0, 0),
  (66, .aload_n 0, 1, 67, .null, 0, 0, 0),
  (67, .getfield 43, 3, 70, .null, 2, 14, 133),
  (70, .iload_n 1, 1, 71, .null, 0, 0, 0),
  (71, .aload_n 0, 1, 72, .null, 0, 0, 0),
  (72, .getfield 43, 3, 75, .null, 2, 14, 133),
  (75, .iload_n 1, 1, 76, .null, 0, 0, 0),
  (76, .iaload, 1, 77, .null, 0, 0, 0),
  (77, .iconst 1, 1, 78, .int 1, 0, 0, 0),
  (78, .iadd, 1, 79, .null, 0, 0, 0),
  (79, .sipush 9999, 3, 82, .int 9999, 0, 0, 0),
  (82, .invokestatic 98, 3, 85, .null, 0, 0, 0),
  (85, .iastore, 1, 86, .null, 0, 0, 0),
  (86, .aload_n 0, 1, 87, .null, 0, 0, 0),
  (87, .getfield 37, 3, 90, .null, 2, 12, 128),
  (90, .iload_n 1, 1, 91, .null, 0, 0, 0),
  (91, .iconst 0, 1, 92, .int 0, 0, 0, 0),
  (92, .iastore, 1, 93, .null, 0, 0, 0),
  (93, .return_, 1, 94, .null, 0, 0, 0)]
set_option maxRecDepth 100000 in
theorem ek_R_letStand : e_R_letStand.all (eok 2 c_R_letStand) = true := by decide +kernel
def F_R_letStand_93 (w : A_W) : Option (A_W) :=
  some w
def F_R_letStand_0 (t : Nat) (w : A_W) : Option (A_W) :=
  (ob w t 2).bind fun o2 =>
  (F_R_girlOfDay t w).bind fun p1 =>
  (gi p1.2 t 2 4).bind fun v3 =>
  if p1.1 < v3 then
    (gr p1.2 t 2 12).bind fun a5 =>
    (gr p1.2 t 2 12).bind fun a6 =>
    (rd p1.2 a6 p1.1).bind fun v7 =>
    (gr p1.2 t 2 5).bind fun a8 =>
    (gi p1.2 t 2 0).bind fun v9 =>
    (rd p1.2 a8 (jrem v9 6)).bind fun v10 =>
    (ob p1.2 t 2).bind fun o12 =>
    (F_R_lightAt t (jrem v10 100) p1.2).bind fun p11 =>
    (wr p11.2 a5 p1.1 (jmin (v7 + p11.1) 99)).bind fun w13 =>
    (gr w13 t 2 12).bind fun a14 =>
    (rd w13 a14 p1.1).bind fun v15 =>
    (gr w13 t 2 13).bind fun a16 =>
    (rd w13 a16 p1.1).bind fun v17 =>
    if v15 < v17 then
      F_R_letStand_93 w13
    else
      (gr w13 t 2 14).bind fun a19 =>
      (gr w13 t 2 14).bind fun a20 =>
      (rd w13 a20 p1.1).bind fun v21 =>
      (wr w13 a19 p1.1 (jmin (v21 + 1) 9999)).bind fun w22 =>
      (gr w22 t 2 12).bind fun a23 =>
      (wr w22 a23 p1.1 0).bind fun w24 =>
      F_R_letStand_93 w24
  else
    some p1.2
set_option maxHeartbeats 4000000 in
set_option maxRecDepth 100000 in
theorem s_R_letStand_93 {G : Gx} {X : Cx} {res : A_W} (K : Ok G X 2 c_R_letStand 2 (none) rm_R_letStand) (hQ : QQ G X none res 0 0) (w : A_W) (h : F_R_letStand_93 w = some res) : Sm G X w 0 0 [none, none] [] 93 := by
  unfold F_R_letStand_93 at h
  obtain rfl := Option.some.inj h
  exact Sm_retv K hQ (eok_i (eo ek_R_letStand (i := 56) rfl) rfl)
set_option maxHeartbeats 4000000 in
set_option maxRecDepth 100000 in
theorem s_R_letStand_0 {G : Gx} {X : Cx} {res : A_W} (K : Ok G X 2 c_R_letStand 2 (none) rm_R_letStand) (hQ : QQ G X none res 0 0) (t : Nat) (w : A_W) (h : F_R_letStand_0 t w = some res) : Sm G X w 0 0 [some (.ref t), none] [] 0 := by
  unfold F_R_letStand_0 at h
  refine Sm_run K ek_R_letStand 0 1 rfl ?_
  obtain ⟨o2, e_o2, h⟩ := Option.bind_eq_some_iff.mp h
  obtain ⟨p1, e_p1, h⟩ := Option.bind_eq_some_iff.mp h
  refine Sm_callV K (eok_i (eo ek_R_letStand (i := 1) rfl) rfl) cy_R_girlOfDay im_R_girlOfDay se_R_girlOfDay (lgm 375 (by decide +kernel) rfl) ⟨Nat.le_of_ble_eq_true rfl, Nat.le_of_ble_eq_true rfl⟩ (as := []) (b := t) (st := []) (ob_e e_o2) (by decide) rfl rfl rfl rfl (Nat.le_of_ble_eq_true rfl) ⟨Nat.le_of_ble_eq_true rfl, Nat.le_of_ble_eq_true rfl⟩ (cn_R_girlOfDay e_p1) ?_
  refine Sm_eq (st1 := .int p1.1 :: []) (nc1 := 0) (ns1 := 0) rfl rfl rfl ?_
  refine Sm_run K ek_R_letStand 2 3 rfl ?_
  obtain ⟨v3, e_v3, h⟩ := Option.bind_eq_some_iff.mp h
  refine Sm_gi K (eo ek_R_letStand (i := 5) rfl) e_v3 ?_
  refine Sm_ic_lt K (eo ek_R_letStand (i := 6) rfl) (fun c4 => ?_) (fun c4 => ?_)
  · rw [if_pos c4] at h
    refine Sm_run K ek_R_letStand 8 1 rfl ?_
    obtain ⟨a5, e_a5, h⟩ := Option.bind_eq_some_iff.mp h
    refine Sm_gr K (eo ek_R_letStand (i := 9) rfl) e_a5 ?_
    refine Sm_run K ek_R_letStand 10 2 rfl ?_
    obtain ⟨a6, e_a6, h⟩ := Option.bind_eq_some_iff.mp h
    refine Sm_gr K (eo ek_R_letStand (i := 12) rfl) e_a6 ?_
    refine Sm_run K ek_R_letStand 13 1 rfl ?_
    obtain ⟨v7, e_v7, h⟩ := Option.bind_eq_some_iff.mp h
    refine Sm_rd K (eok_i (eo ek_R_letStand (i := 14) rfl) rfl) e_v7 ?_
    refine Sm_run K ek_R_letStand 15 2 rfl ?_
    obtain ⟨a8, e_a8, h⟩ := Option.bind_eq_some_iff.mp h
    refine Sm_gr K (eo ek_R_letStand (i := 17) rfl) e_a8 ?_
    refine Sm_run K ek_R_letStand 18 1 rfl ?_
    obtain ⟨v9, e_v9, h⟩ := Option.bind_eq_some_iff.mp h
    refine Sm_gi K (eo ek_R_letStand (i := 19) rfl) e_v9 ?_
    refine Sm_run K ek_R_letStand 20 1 rfl ?_
    refine Sm_irem K (eok_i (eo ek_R_letStand (i := 21) rfl) rfl) (by decide) ?_
    obtain ⟨v10, e_v10, h⟩ := Option.bind_eq_some_iff.mp h
    refine Sm_rd K (eok_i (eo ek_R_letStand (i := 22) rfl) rfl) e_v10 ?_
    refine Sm_run K ek_R_letStand 23 1 rfl ?_
    refine Sm_irem K (eok_i (eo ek_R_letStand (i := 24) rfl) rfl) (by decide) ?_
    obtain ⟨o12, e_o12, h⟩ := Option.bind_eq_some_iff.mp h
    obtain ⟨p11, e_p11, h⟩ := Option.bind_eq_some_iff.mp h
    refine Sm_callV K (eok_i (eo ek_R_letStand (i := 25) rfl) rfl) cy_R_lightAt im_R_lightAt se_R_lightAt (lgm 308 (by decide +kernel) rfl) ⟨Nat.le_of_ble_eq_true rfl, Nat.le_of_ble_eq_true rfl⟩ (as := [.int (jrem v10 100)]) (b := t) (st := [.int v7, .int p1.1, .ref a5]) (ob_e e_o12) (by decide) rfl rfl rfl rfl (Nat.le_of_ble_eq_true rfl) ⟨Nat.le_of_ble_eq_true rfl, Nat.le_of_ble_eq_true rfl⟩ (cn_R_lightAt e_p11) ?_
    refine Sm_eq (st1 := .int p11.1 :: [.int v7, .int p1.1, .ref a5]) (nc1 := 0) (ns1 := 0) rfl rfl rfl ?_
    refine Sm_run K ek_R_letStand 26 2 rfl ?_
    refine Sm_min K (eok_i (eo ek_R_letStand (i := 28) rfl) rfl) (lgm 297 (by decide +kernel) rfl) rfl (Nat.le_of_ble_eq_true rfl) (Nat.le_of_ble_eq_true rfl) (Nat.zero_le _) (Nat.zero_le _) ?_
    obtain ⟨w13, e_w13, h⟩ := Option.bind_eq_some_iff.mp h
    refine Sm_wr K (eok_i (eo ek_R_letStand (i := 29) rfl) rfl) e_w13 ?_
    refine Sm_run K ek_R_letStand 30 1 rfl ?_
    obtain ⟨a14, e_a14, h⟩ := Option.bind_eq_some_iff.mp h
    refine Sm_gr K (eo ek_R_letStand (i := 31) rfl) e_a14 ?_
    refine Sm_run K ek_R_letStand 32 1 rfl ?_
    obtain ⟨v15, e_v15, h⟩ := Option.bind_eq_some_iff.mp h
    refine Sm_rd K (eok_i (eo ek_R_letStand (i := 33) rfl) rfl) e_v15 ?_
    refine Sm_run K ek_R_letStand 34 1 rfl ?_
    obtain ⟨a16, e_a16, h⟩ := Option.bind_eq_some_iff.mp h
    refine Sm_gr K (eo ek_R_letStand (i := 35) rfl) e_a16 ?_
    refine Sm_run K ek_R_letStand 36 1 rfl ?_
    obtain ⟨v17, e_v17, h⟩ := Option.bind_eq_some_iff.mp h
    refine Sm_rd K (eok_i (eo ek_R_letStand (i := 37) rfl) rfl) e_v17 ?_
    refine Sm_ic_lt K (eo ek_R_letStand (i := 38) rfl) (fun c18 => ?_) (fun c18 => ?_)
    · rw [if_pos c18] at h
      exact Sm_le (leR_n (leR_n leR_nil)) (s_R_letStand_93 K hQ _ h)
    · rw [if_neg c18] at h
      refine Sm_run K ek_R_letStand 39 1 rfl ?_
      obtain ⟨a19, e_a19, h⟩ := Option.bind_eq_some_iff.mp h
      refine Sm_gr K (eo ek_R_letStand (i := 40) rfl) e_a19 ?_
      refine Sm_run K ek_R_letStand 41 2 rfl ?_
      obtain ⟨a20, e_a20, h⟩ := Option.bind_eq_some_iff.mp h
      refine Sm_gr K (eo ek_R_letStand (i := 43) rfl) e_a20 ?_
      refine Sm_run K ek_R_letStand 44 1 rfl ?_
      obtain ⟨v21, e_v21, h⟩ := Option.bind_eq_some_iff.mp h
      refine Sm_rd K (eok_i (eo ek_R_letStand (i := 45) rfl) rfl) e_v21 ?_
      refine Sm_run K ek_R_letStand 46 3 rfl ?_
      refine Sm_min K (eok_i (eo ek_R_letStand (i := 49) rfl) rfl) (lgm 297 (by decide +kernel) rfl) rfl (Nat.le_of_ble_eq_true rfl) (Nat.le_of_ble_eq_true rfl) (Nat.zero_le _) (Nat.zero_le _) ?_
      obtain ⟨w22, e_w22, h⟩ := Option.bind_eq_some_iff.mp h
      refine Sm_wr K (eok_i (eo ek_R_letStand (i := 50) rfl) rfl) e_w22 ?_
      refine Sm_run K ek_R_letStand 51 1 rfl ?_
      obtain ⟨a23, e_a23, h⟩ := Option.bind_eq_some_iff.mp h
      refine Sm_gr K (eo ek_R_letStand (i := 52) rfl) e_a23 ?_
      refine Sm_run K ek_R_letStand 53 2 rfl ?_
      obtain ⟨w24, e_w24, h⟩ := Option.bind_eq_some_iff.mp h
      refine Sm_wr K (eok_i (eo ek_R_letStand (i := 55) rfl) rfl) e_w24 ?_
      exact Sm_le (leR_n (leR_n leR_nil)) (s_R_letStand_93 K hQ _ h)
  · rw [if_neg c4] at h
    obtain rfl := Option.some.inj h
    exact Sm_retv K hQ (eok_i (eo ek_R_letStand (i := 7) rfl) rfl)
def F_R_letStand (t : Nat) (w : A_W) : Option (A_W) := F_R_letStand_0 t w
theorem cn_R_letStand {G : Gx} {t : Nat} {w : A_W} {res : A_W} (h : F_R_letStand t w = some res) : Cn G y_R_letStand c_R_letStand 2 (none) rm_R_letStand [.ref t] w none res :=
  Cn_of (own := 2) cy_R_letStand rfl rfl (Nat.le_of_ble_eq_true rfl) rfl (fun X K _ hQ => Sm_le (leR_s (leR_n leR_nil)) (s_R_letStand_0 K hQ _ _ h))
/-! EveningCloak$Room.costTogether()I -/
abbrev c_R_costTogether : ByteArray := prog_3_method_20_code
def y_R_costTogether : MethodName := ⟨"EveningCloak$Room", "costTogether", "()I"⟩
def rm_R_costTogether : Room := { frames := 1, cells := 0, slots := 0, locals := 21 }
theorem cy_R_costTogether : Cy y_R_costTogether c_R_costTogether 3 (some .int) 0 := ⟨lgm 382 (by decide +kernel) rfl, lgm 69 (by decide +kernel) rfl, by decide +kernel, by decide +kernel⟩
theorem im_R_costTogether : Cond.instanceMethod y_R_costTogether ∈ lg := lgm 380 (by decide +kernel) rfl
theorem se_R_costTogether : Cond.selects y_R_costTogether.cls y_R_costTogether y_R_costTogether ∈ lg := lgm 381 (by decide +kernel) rfl
def e_R_costTogether : List Ent := [
  (0, .iconst 0, 1, 1, .int 0, 0, 0, 0),
  (1, .istore_n 1, 1, 2, .null, 0, 0, 0),
  (2, .iconst 0, 1, 3, .int 0, 0, 0, 0),
  (3, .istore_n 2, 1, 4, .null, 0, 0, 0),
  (4, .iload_n 2, 1, 5, .null, 0, 0, 0),
  (5, .aload_n 0, 1, 6, .null, 0, 0, 0),
  (6, .getfield 61, 3, 9, .null, 2, 3, 104),
  (9, .if_icmp .ge 26, 3, 35, .null, 0, 0, 0),
  (12, .aload_n 0, 1, 13, .null, 0, 0, 0),
  (13, .getfield 34, 3, 16, .null, 2, 11, 125),
  (16, .iload_n 2, 1, 17, .null, 0, 0, 0),
  (17, .iaload, 1, 18, .null, 0, 0, 0),
  (18, .ifCond .ne 11, 3, 29, .null, 0, 0, 0),
  (21, .iload_n 1, 1, 22, .null, 0, 0, 0),
  (22, .aload_n 0, 1, 23, .null, 0, 0, 0),
  (23, .iload_n 2, 1, 24, .null, 0, 0, 0),
  (24, .invokevirtual 87, 3, 27, .null, 0, 0, 0),
  (27, .iadd, 1, 28, .null, 0, 0, 0),
  (28, .istore_n 1, 1, 29, .null, 0, 0, 0),
  (29, .iinc 2 1, 3, 32, .int 1, 0, 0, 0),
  (32, .goto (-28), 3, 4, .null, 0, 0, 0),
  (35, .iload_n 1, 1, 36, .null, 0, 0, 0),
  (36, .ireturn, 1, 37, .null, 0, 0, 0)]
set_option maxRecDepth 100000 in
theorem ek_R_costTogether : e_R_costTogether.all (eok 2 c_R_costTogether) = true := by decide +kernel
def F_R_costTogether_29 (k4 : Nat → Int32 → Int32 → A_W → Option (Int32 × A_W)) (t : Nat) (x1 : Int32) (x2 : Int32) (w : A_W) : Option (Int32 × A_W) :=
  k4 t x1 (x2 + 1) w
def F_R_costTogether_4 : Nat → Nat → Int32 → Int32 → A_W → Option (Int32 × A_W)
  | 0, _, _, _, _ => none
  | n + 1, t, x1, x2, w =>
    (gi w t 2 3).bind fun v1 =>
    if v1 ≤ x2 then
      some (x1, w)
    else
      (gr w t 2 11).bind fun a3 =>
      (rd w a3 x2).bind fun v4 =>
      if v4 = 0 then
        (ob w t 2).bind fun o7 =>
        (F_R_costOf t x2 w).bind fun p6 =>
        F_R_costTogether_29 (F_R_costTogether_4 n) t (x1 + p6.1) x2 p6.2
      else
        F_R_costTogether_29 (F_R_costTogether_4 n) t x1 x2 w
def F_R_costTogether_0 (t : Nat) (w : A_W) : Option (Int32 × A_W) :=
  F_R_costTogether_4 FU t 0 0 w
set_option maxHeartbeats 4000000 in
set_option maxRecDepth 100000 in
theorem s_R_costTogether_29 {G : Gx} {X : Cx} {res : Int32 × A_W} (K : Ok G X 2 c_R_costTogether 3 (some .int) rm_R_costTogether) (hQ : QQ G X (some (.int res.1)) res.2 0 0) {k4 : Nat → Int32 → Int32 → A_W → Option (Int32 × A_W)} (hk4 : ∀ (t : Nat) (x1 : Int32) (x2 : Int32) (w : A_W), k4 t x1 x2 w = some res → Sm G X w 0 0 [some (.ref t), some (.int x1), some (.int x2)] [] 4) (t : Nat) (x1 : Int32) (x2 : Int32) (w : A_W) (h : F_R_costTogether_29 k4 t x1 x2 w = some res) : Sm G X w 0 0 [some (.ref t), some (.int x1), some (.int x2)] [] 29 := by
  unfold F_R_costTogether_29 at h
  refine Sm_run K ek_R_costTogether 19 2 rfl ?_
  exact Sm_le (leR_s (leR_s (leR_s leR_nil))) (hk4 _ _ _ _ h)
set_option maxHeartbeats 4000000 in
set_option maxRecDepth 100000 in
theorem s_R_costTogether_4 {G : Gx} {X : Cx} {res : Int32 × A_W} (K : Ok G X 2 c_R_costTogether 3 (some .int) rm_R_costTogether) (hQ : QQ G X (some (.int res.1)) res.2 0 0) : ∀ (n : Nat) (t : Nat) (x1 : Int32) (x2 : Int32) (w : A_W), F_R_costTogether_4 n t x1 x2 w = some res → Sm G X w 0 0 [some (.ref t), some (.int x1), some (.int x2)] [] 4 := by
  intro n
  induction n with
  | zero => intro t x1 x2 w h; cases h
  | succ n ih =>
    intro t x1 x2 w h
    rw [F_R_costTogether_4] at h
    refine Sm_run K ek_R_costTogether 4 2 rfl ?_
    obtain ⟨v1, e_v1, h⟩ := Option.bind_eq_some_iff.mp h
    refine Sm_gi K (eo ek_R_costTogether (i := 6) rfl) e_v1 ?_
    refine Sm_ic_ge K (eo ek_R_costTogether (i := 7) rfl) (fun c2 => ?_) (fun c2 => ?_)
    · rw [if_pos c2] at h
      refine Sm_run K ek_R_costTogether 21 1 rfl ?_
      obtain rfl := Option.some.inj h
      exact Sm_reti K hQ (eok_i (eo ek_R_costTogether (i := 22) rfl) rfl)
    · rw [if_neg c2] at h
      refine Sm_run K ek_R_costTogether 8 1 rfl ?_
      obtain ⟨a3, e_a3, h⟩ := Option.bind_eq_some_iff.mp h
      refine Sm_gr K (eo ek_R_costTogether (i := 9) rfl) e_a3 ?_
      refine Sm_run K ek_R_costTogether 10 1 rfl ?_
      obtain ⟨v4, e_v4, h⟩ := Option.bind_eq_some_iff.mp h
      refine Sm_rd K (eok_i (eo ek_R_costTogether (i := 11) rfl) rfl) e_v4 ?_
      refine Sm_if_ne K (eo ek_R_costTogether (i := 12) rfl) (fun c5 => ?_) (fun c5 => ?_)
      · rw [if_neg c5] at h
        exact Sm_le (leR_s (leR_s (leR_s leR_nil))) (s_R_costTogether_29 K hQ ih _ _ _ _ h)
      · rw [if_pos c5] at h
        refine Sm_run K ek_R_costTogether 13 3 rfl ?_
        obtain ⟨o7, e_o7, h⟩ := Option.bind_eq_some_iff.mp h
        obtain ⟨p6, e_p6, h⟩ := Option.bind_eq_some_iff.mp h
        refine Sm_callV K (eok_i (eo ek_R_costTogether (i := 16) rfl) rfl) cy_R_costOf im_R_costOf se_R_costOf (lgm 318 (by decide +kernel) rfl) ⟨Nat.le_of_ble_eq_true rfl, Nat.le_of_ble_eq_true rfl⟩ (as := [.int x2]) (b := t) (st := [.int x1]) (ob_e e_o7) (by decide) rfl rfl rfl rfl (Nat.le_of_ble_eq_true rfl) ⟨Nat.le_of_ble_eq_true rfl, Nat.le_of_ble_eq_true rfl⟩ (cn_R_costOf e_p6) ?_
        refine Sm_eq (st1 := .int p6.1 :: [.int x1]) (nc1 := 0) (ns1 := 0) rfl rfl rfl ?_
        refine Sm_run K ek_R_costTogether 17 2 rfl ?_
        exact Sm_le (leR_s (leR_s (leR_s leR_nil))) (s_R_costTogether_29 K hQ ih _ _ _ _ h)
set_option maxHeartbeats 4000000 in
set_option maxRecDepth 100000 in
theorem s_R_costTogether_0 {G : Gx} {X : Cx} {res : Int32 × A_W} (K : Ok G X 2 c_R_costTogether 3 (some .int) rm_R_costTogether) (hQ : QQ G X (some (.int res.1)) res.2 0 0) (t : Nat) (w : A_W) (h : F_R_costTogether_0 t w = some res) : Sm G X w 0 0 [some (.ref t), none, none] [] 0 := by
  unfold F_R_costTogether_0 at h
  refine Sm_run K ek_R_costTogether 0 4 rfl ?_
  exact Sm_le (leR_s (leR_s (leR_s leR_nil))) (s_R_costTogether_4 K hQ FU _ _ _ _ h)
def F_R_costTogether (t : Nat) (w : A_W) : Option (Int32 × A_W) := F_R_costTogether_0 t w
theorem cn_R_costTogether {G : Gx} {t : Nat} {w : A_W} {res : Int32 × A_W} (h : F_R_costTogether t w = some res) : Cn G y_R_costTogether c_R_costTogether 3 (some .int) rm_R_costTogether [.ref t] w (some (.int res.1)) res.2 :=
  Cn_of (own := 2) cy_R_costTogether rfl rfl (Nat.le_of_ble_eq_true rfl) rfl (fun X K _ hQ => Sm_le (leR_s (leR_n (leR_n leR_nil))) (s_R_costTogether_0 K hQ _ _ h))
/-! EveningCloak$Room.passDays(I)V -/
abbrev c_R_passDays : ByteArray := prog_3_method_17_code
def y_R_passDays : MethodName := ⟨"EveningCloak$Room", "passDays", "(I)V"⟩
def rm_R_passDays : Room := { frames := 4, cells := 0, slots := 0, locals := 90 }
theorem cy_R_passDays : Cy y_R_passDays c_R_passDays 4 (none) 1 := ⟨lgm 370 (by decide +kernel) rfl, lgm 69 (by decide +kernel) rfl, by decide +kernel, by decide +kernel⟩
theorem im_R_passDays : Cond.instanceMethod y_R_passDays ∈ lg := lgm 368 (by decide +kernel) rfl
theorem se_R_passDays : Cond.selects y_R_passDays.cls y_R_passDays y_R_passDays ∈ lg := lgm 369 (by decide +kernel) rfl
def e_R_passDays : List Ent := [
  (0, .iconst 0, 1, 1, .int 0, 0, 0, 0),
  (1, .istore_n 2, 1, 2, .null, 0, 0, 0),
  (2, .iload_n 2, 1, 3, .null, 0, 0, 0),
  (3, .iload_n 1, 1, 4, .null, 0, 0, 0),
  (4, .if_icmp .ge 114, 3, 118, .null, 0, 0, 0),
  (7, .aload_n 0, 1, 8, .null, 0, 0, 0),
  (8, .invokevirtual 112, 3, 11, .null, 0, 0, 0),
  (11, .aload_n 0, 1, 12, .null, 0, 0, 0),
  (12, .aload_n 0, 1, 13, .null, 0, 0, 0),
  (13, .getfield 58, 3, 16, .null, 2, 1, 100),
  (16, .aload_n 0, 1, 17, .null, 0, 0, 0),
  (17, .invokevirtual 115, 3, 20, .null, 0, 0, 0),
  (20, .iadd, 1, 21, .null, 0, 0, 0),
  (21, .ldc 119, 2, 23, .int 99999, 0, 0, 383),
  (23, .invokestatic 98, 3, 26, .null, 0, 0, 0),
  (26, .putfield 58, 3, 29, .null, 2, 1, 100),
  (29, .iconst 0, 1, 30, .int 0, 0, 0, 0),
  (30, .istore_n 3, 1, 31, .null, 0, 0, 0),
  (31, .iload_n 3, 1, 32, .null, 0, 0, 0),
  (32, .aload_n 0, 1, 33, .null, 0, 0, 0),
  (33, .getfield 61, 3, 36, .null, 2, 3, 104),
  (36, .if_icmp .ge 61, 3, 97, .null, 0, 0, 0),
  (39, .aload_n 0, 1, 40, .null, 0, 0, 0),
  (40, .getfield 34, 3, 43, .null, 2, 11, 125),
  (43, .iload_n 3, 1, 44, .null, 0, 0, 0),
  (44, .iaload, 1, 45, .null, 0, 0, 0),
  (45, .ifCond .ne 46, 3, 91, .null, 0, 0, 0),
  (48, .aload_n 0, 1, 49, .null, 0, 0, 0),
  (49, .getfield 31, 3, 52, .null, 2, 10, 122),
  (52, .iload_n 3, 1, 53, .null, 0, 0, 0),
  (53, .aload_n 0, 1, 54, .null, 0, 0, 0),
  (54, .getfield 31, 3, 57, .null, 2, 10, 122),
  (57, .iload_n 3, 1, 58, .null, 0, 0, 0),
  (58, .iaload, 1, 59, .null, 0, 0, 0),
  (59, .aload_n 0, 1, 60, .null, 0, 0, 0),
  (60, .iload_n 3, 1, 61, .null, 0, 0, 0),
  (61, .invokevirtual 84, 3, 64, .null, 0, 0, 0),
  (64, .iadd, 1, 65, .null, 0, 0, 0),
  (65, .bipush 99, 2, 67, .int 99, 0, 0, 0),
  (67, .invokestatic 98, 3, 70, .null, 0, 0, 0),
  (70, .iastore, 1, 71, .null, 0, 0, 0),
  (71, .aload_n 0, 1, 72, .null, 0, 0, 0),
  (72, .getfield 28, 3, 75, .null, 2, 9, 120),
  (75, .iload_n 3, 1, 76, .null, 0, 0, 0),
  (76, .aload_n 0, 1, 77, .null, 0, 0, 0),
  (77, .getfield 28, 3, 80, .null, 2, 9, 120),
  (80, .iload_n 3, 1, 81, .null, 0, 0, 0),
  (81, .iaload, 1, 82, .null, 0, 0, 0),
  (82, .iconst 1, 1, 83, .int 1, 0, 0, 0),
  (83, .iadd, 1, 84, .null, 0, 0, 0),
  (84, .sipush 9999, 3, 87, .int 9999, 0, 0, 0),
  (87, .invokestatic 98, 3, 90, .null, 0, 0, 0),
  (90, .iastore, 1, 91, .null, 0, 0, 0),
  (91, .iinc 3 1, 3, 94, .int 1, 0, 0, 0),
  (94, .goto (-63), 3, 31, .null, 0, 0, 0),
  (97, .aload_n 0, 1, 98, .null, 0, 0, 0),
  (98, .aload_n 0, 1, 99, .null, 0, 0, 0),
  (99, .getfield 55, 3, 102, .null, 2, 0, 98),
  (102, .iconst 1, 1, 103, .int 1, 0, 0, 0),
  (103, .iadd, 1, 104, .null, 0, 0, 0),
  (104, .ldc 119, 2, 106, .int 99999, 0, 0, 383),
  (106, .invokestatic 98, 3, 109, .null, 0, 0, 0),
  (109, .putfield 55, 3, 112, .null, 2, 0, 98),
  (112, .iinc 2 1, 3, 115, .int 1, 0, 0, 0),
  (115, .goto (-113), 3, 2, .null, 0, 0, 0),
  (118, .return_, 1, 119, .null, 0, 0, 0)]
set_option maxRecDepth 100000 in
theorem ek_R_passDays : e_R_passDays.all (eok 2 c_R_passDays) = true := by decide +kernel
def F_R_passDays_91 (k2 : Nat → Int32 → Int32 → A_W → Option (A_W)) (k31 : Nat → Int32 → Int32 → Int32 → A_W → Option (A_W)) (t : Nat) (x1 : Int32) (x2 : Int32) (x3 : Int32) (w : A_W) : Option (A_W) :=
  k31 t x1 x2 (x3 + 1) w
def F_R_passDays_31 (k2 : Nat → Int32 → Int32 → A_W → Option (A_W)) : Nat → Nat → Int32 → Int32 → Int32 → A_W → Option (A_W)
  | 0, _, _, _, _, _ => none
  | n + 1, t, x1, x2, x3, w =>
    (gi w t 2 3).bind fun v1 =>
    if v1 ≤ x3 then
      (gi w t 2 0).bind fun v3 =>
      (pf w t 2 0 (.int (jmin (v3 + 1) 99999))).bind fun w4 =>
      k2 t x1 (x2 + 1) w4
    else
      (gr w t 2 11).bind fun a5 =>
      (rd w a5 x3).bind fun v6 =>
      if v6 = 0 then
        (gr w t 2 10).bind fun a8 =>
        (gr w t 2 10).bind fun a9 =>
        (rd w a9 x3).bind fun v10 =>
        (ob w t 2).bind fun o12 =>
        (F_R_wearOf t x3 w).bind fun p11 =>
        (wr p11.2 a8 x3 (jmin (v10 + p11.1) 99)).bind fun w13 =>
        (gr w13 t 2 9).bind fun a14 =>
        (gr w13 t 2 9).bind fun a15 =>
        (rd w13 a15 x3).bind fun v16 =>
        (wr w13 a14 x3 (jmin (v16 + 1) 9999)).bind fun w17 =>
        F_R_passDays_91 k2 (F_R_passDays_31 k2 n) t x1 x2 x3 w17
      else
        F_R_passDays_91 k2 (F_R_passDays_31 k2 n) t x1 x2 x3 w
def F_R_passDays_2 : Nat → Nat → Int32 → Int32 → A_W → Option (A_W)
  | 0, _, _, _, _ => none
  | n + 1, t, x1, x2, w =>
    if x1 ≤ x2 then
      some w
    else
      (ob w t 2).bind fun o3 =>
      (F_R_letStand t w).bind fun p2 =>
      (gi p2 t 2 1).bind fun v4 =>
      (ob p2 t 2).bind fun o6 =>
      (F_R_costTogether t p2).bind fun p5 =>
      (pf p5.2 t 2 1 (.int (jmin (v4 + p5.1) 99999))).bind fun w7 =>
      F_R_passDays_31 (F_R_passDays_2 n) FU t x1 x2 0 w7
def F_R_passDays_0 (t : Nat) (x1 : Int32) (w : A_W) : Option (A_W) :=
  F_R_passDays_2 FU t x1 0 w
set_option maxHeartbeats 4000000 in
set_option maxRecDepth 100000 in
theorem s_R_passDays_91 {G : Gx} {X : Cx} {res : A_W} (K : Ok G X 2 c_R_passDays 4 (none) rm_R_passDays) (hQ : QQ G X none res 0 0) {k2 : Nat → Int32 → Int32 → A_W → Option (A_W)} {k31 : Nat → Int32 → Int32 → Int32 → A_W → Option (A_W)} (hk2 : ∀ (t : Nat) (x1 : Int32) (x2 : Int32) (w : A_W), k2 t x1 x2 w = some res → Sm G X w 0 0 [some (.ref t), some (.int x1), some (.int x2), none] [] 2) (hk31 : ∀ (t : Nat) (x1 : Int32) (x2 : Int32) (x3 : Int32) (w : A_W), k31 t x1 x2 x3 w = some res → Sm G X w 0 0 [some (.ref t), some (.int x1), some (.int x2), some (.int x3)] [] 31) (t : Nat) (x1 : Int32) (x2 : Int32) (x3 : Int32) (w : A_W) (h : F_R_passDays_91 k2 k31 t x1 x2 x3 w = some res) : Sm G X w 0 0 [some (.ref t), some (.int x1), some (.int x2), some (.int x3)] [] 91 := by
  unfold F_R_passDays_91 at h
  refine Sm_run K ek_R_passDays 53 2 rfl ?_
  exact Sm_le (leR_s (leR_s (leR_s (leR_s leR_nil)))) (hk31 _ _ _ _ _ h)
set_option maxHeartbeats 4000000 in
set_option maxRecDepth 100000 in
theorem s_R_passDays_31 {G : Gx} {X : Cx} {res : A_W} (K : Ok G X 2 c_R_passDays 4 (none) rm_R_passDays) (hQ : QQ G X none res 0 0) {k2 : Nat → Int32 → Int32 → A_W → Option (A_W)} (hk2 : ∀ (t : Nat) (x1 : Int32) (x2 : Int32) (w : A_W), k2 t x1 x2 w = some res → Sm G X w 0 0 [some (.ref t), some (.int x1), some (.int x2), none] [] 2) : ∀ (n : Nat) (t : Nat) (x1 : Int32) (x2 : Int32) (x3 : Int32) (w : A_W), F_R_passDays_31 k2 n t x1 x2 x3 w = some res → Sm G X w 0 0 [some (.ref t), some (.int x1), some (.int x2), some (.int x3)] [] 31 := by
  intro n
  induction n with
  | zero => intro t x1 x2 x3 w h; cases h
  | succ n ih =>
    intro t x1 x2 x3 w h
    rw [F_R_passDays_31] at h
    refine Sm_run K ek_R_passDays 18 2 rfl ?_
    obtain ⟨v1, e_v1, h⟩ := Option.bind_eq_some_iff.mp h
    refine Sm_gi K (eo ek_R_passDays (i := 20) rfl) e_v1 ?_
    refine Sm_ic_ge K (eo ek_R_passDays (i := 21) rfl) (fun c2 => ?_) (fun c2 => ?_)
    · rw [if_pos c2] at h
      refine Sm_run K ek_R_passDays 55 2 rfl ?_
      obtain ⟨v3, e_v3, h⟩ := Option.bind_eq_some_iff.mp h
      refine Sm_gi K (eo ek_R_passDays (i := 57) rfl) e_v3 ?_
      refine Sm_run K ek_R_passDays 58 3 rfl ?_
      refine Sm_min K (eok_i (eo ek_R_passDays (i := 61) rfl) rfl) (lgm 297 (by decide +kernel) rfl) rfl (Nat.le_of_ble_eq_true rfl) (Nat.le_of_ble_eq_true rfl) (Nat.zero_le _) (Nat.zero_le _) ?_
      obtain ⟨w4, e_w4, h⟩ := Option.bind_eq_some_iff.mp h
      refine Sm_pi K (eo ek_R_passDays (i := 62) rfl) rfl rfl e_w4 ?_
      refine Sm_run K ek_R_passDays 63 2 rfl ?_
      exact Sm_le (leR_s (leR_s (leR_s (leR_n leR_nil)))) (hk2 _ _ _ _ h)
    · rw [if_neg c2] at h
      refine Sm_run K ek_R_passDays 22 1 rfl ?_
      obtain ⟨a5, e_a5, h⟩ := Option.bind_eq_some_iff.mp h
      refine Sm_gr K (eo ek_R_passDays (i := 23) rfl) e_a5 ?_
      refine Sm_run K ek_R_passDays 24 1 rfl ?_
      obtain ⟨v6, e_v6, h⟩ := Option.bind_eq_some_iff.mp h
      refine Sm_rd K (eok_i (eo ek_R_passDays (i := 25) rfl) rfl) e_v6 ?_
      refine Sm_if_ne K (eo ek_R_passDays (i := 26) rfl) (fun c7 => ?_) (fun c7 => ?_)
      · rw [if_neg c7] at h
        exact Sm_le (leR_s (leR_s (leR_s (leR_s leR_nil)))) (s_R_passDays_91 K hQ hk2 ih _ _ _ _ _ h)
      · rw [if_pos c7] at h
        refine Sm_run K ek_R_passDays 27 1 rfl ?_
        obtain ⟨a8, e_a8, h⟩ := Option.bind_eq_some_iff.mp h
        refine Sm_gr K (eo ek_R_passDays (i := 28) rfl) e_a8 ?_
        refine Sm_run K ek_R_passDays 29 2 rfl ?_
        obtain ⟨a9, e_a9, h⟩ := Option.bind_eq_some_iff.mp h
        refine Sm_gr K (eo ek_R_passDays (i := 31) rfl) e_a9 ?_
        refine Sm_run K ek_R_passDays 32 1 rfl ?_
        obtain ⟨v10, e_v10, h⟩ := Option.bind_eq_some_iff.mp h
        refine Sm_rd K (eok_i (eo ek_R_passDays (i := 33) rfl) rfl) e_v10 ?_
        refine Sm_run K ek_R_passDays 34 2 rfl ?_
        obtain ⟨o12, e_o12, h⟩ := Option.bind_eq_some_iff.mp h
        obtain ⟨p11, e_p11, h⟩ := Option.bind_eq_some_iff.mp h
        refine Sm_callV K (eok_i (eo ek_R_passDays (i := 36) rfl) rfl) cy_R_wearOf im_R_wearOf se_R_wearOf (lgm 304 (by decide +kernel) rfl) ⟨Nat.le_of_ble_eq_true rfl, Nat.le_of_ble_eq_true rfl⟩ (as := [.int x3]) (b := t) (st := [.int v10, .int x3, .ref a8]) (ob_e e_o12) (by decide) rfl rfl rfl rfl (Nat.le_of_ble_eq_true rfl) ⟨Nat.le_of_ble_eq_true rfl, Nat.le_of_ble_eq_true rfl⟩ (cn_R_wearOf e_p11) ?_
        refine Sm_eq (st1 := .int p11.1 :: [.int v10, .int x3, .ref a8]) (nc1 := 0) (ns1 := 0) rfl rfl rfl ?_
        refine Sm_run K ek_R_passDays 37 2 rfl ?_
        refine Sm_min K (eok_i (eo ek_R_passDays (i := 39) rfl) rfl) (lgm 297 (by decide +kernel) rfl) rfl (Nat.le_of_ble_eq_true rfl) (Nat.le_of_ble_eq_true rfl) (Nat.zero_le _) (Nat.zero_le _) ?_
        obtain ⟨w13, e_w13, h⟩ := Option.bind_eq_some_iff.mp h
        refine Sm_wr K (eok_i (eo ek_R_passDays (i := 40) rfl) rfl) e_w13 ?_
        refine Sm_run K ek_R_passDays 41 1 rfl ?_
        obtain ⟨a14, e_a14, h⟩ := Option.bind_eq_some_iff.mp h
        refine Sm_gr K (eo ek_R_passDays (i := 42) rfl) e_a14 ?_
        refine Sm_run K ek_R_passDays 43 2 rfl ?_
        obtain ⟨a15, e_a15, h⟩ := Option.bind_eq_some_iff.mp h
        refine Sm_gr K (eo ek_R_passDays (i := 45) rfl) e_a15 ?_
        refine Sm_run K ek_R_passDays 46 1 rfl ?_
        obtain ⟨v16, e_v16, h⟩ := Option.bind_eq_some_iff.mp h
        refine Sm_rd K (eok_i (eo ek_R_passDays (i := 47) rfl) rfl) e_v16 ?_
        refine Sm_run K ek_R_passDays 48 3 rfl ?_
        refine Sm_min K (eok_i (eo ek_R_passDays (i := 51) rfl) rfl) (lgm 297 (by decide +kernel) rfl) rfl (Nat.le_of_ble_eq_true rfl) (Nat.le_of_ble_eq_true rfl) (Nat.zero_le _) (Nat.zero_le _) ?_
        obtain ⟨w17, e_w17, h⟩ := Option.bind_eq_some_iff.mp h
        refine Sm_wr K (eok_i (eo ek_R_passDays (i := 52) rfl) rfl) e_w17 ?_
        exact Sm_le (leR_s (leR_s (leR_s (leR_s leR_nil)))) (s_R_passDays_91 K hQ hk2 ih _ _ _ _ _ h)
set_option maxHeartbeats 4000000 in
set_option maxRecDepth 100000 in
theorem s_R_passDays_2 {G : Gx} {X : Cx} {res : A_W} (K : Ok G X 2 c_R_passDays 4 (none) rm_R_passDays) (hQ : QQ G X none res 0 0) : ∀ (n : Nat) (t : Nat) (x1 : Int32) (x2 : Int32) (w : A_W), F_R_passDays_2 n t x1 x2 w = some res → Sm G X w 0 0 [some (.ref t), some (.int x1), some (.int x2), none] [] 2 := by
  intro n
  induction n with
  | zero => intro t x1 x2 w h; cases h
  | succ n ih =>
    intro t x1 x2 w h
    rw [F_R_passDays_2] at h
    refine Sm_run K ek_R_passDays 2 2 rfl ?_
    refine Sm_ic_ge K (eo ek_R_passDays (i := 4) rfl) (fun c1 => ?_) (fun c1 => ?_)
    · rw [if_pos c1] at h
      obtain rfl := Option.some.inj h
      exact Sm_retv K hQ (eok_i (eo ek_R_passDays (i := 65) rfl) rfl)
    · rw [if_neg c1] at h
      refine Sm_run K ek_R_passDays 5 1 rfl ?_
      obtain ⟨o3, e_o3, h⟩ := Option.bind_eq_some_iff.mp h
      obtain ⟨p2, e_p2, h⟩ := Option.bind_eq_some_iff.mp h
      refine Sm_callV K (eok_i (eo ek_R_passDays (i := 6) rfl) rfl) cy_R_letStand im_R_letStand se_R_letStand (lgm 371 (by decide +kernel) rfl) ⟨Nat.le_of_ble_eq_true rfl, Nat.le_of_ble_eq_true rfl⟩ (as := []) (b := t) (st := []) (ob_e e_o3) (by decide) rfl rfl rfl rfl (Nat.le_of_ble_eq_true rfl) ⟨Nat.le_of_ble_eq_true rfl, Nat.le_of_ble_eq_true rfl⟩ (cn_R_letStand e_p2) ?_
      refine Sm_eq (st1 := []) (nc1 := 0) (ns1 := 0) rfl rfl rfl ?_
      refine Sm_run K ek_R_passDays 7 2 rfl ?_
      obtain ⟨v4, e_v4, h⟩ := Option.bind_eq_some_iff.mp h
      refine Sm_gi K (eo ek_R_passDays (i := 9) rfl) e_v4 ?_
      refine Sm_run K ek_R_passDays 10 1 rfl ?_
      obtain ⟨o6, e_o6, h⟩ := Option.bind_eq_some_iff.mp h
      obtain ⟨p5, e_p5, h⟩ := Option.bind_eq_some_iff.mp h
      refine Sm_callV K (eok_i (eo ek_R_passDays (i := 11) rfl) rfl) cy_R_costTogether im_R_costTogether se_R_costTogether (lgm 379 (by decide +kernel) rfl) ⟨Nat.le_of_ble_eq_true rfl, Nat.le_of_ble_eq_true rfl⟩ (as := []) (b := t) (st := [.int v4, .ref t]) (ob_e e_o6) (by decide) rfl rfl rfl rfl (Nat.le_of_ble_eq_true rfl) ⟨Nat.le_of_ble_eq_true rfl, Nat.le_of_ble_eq_true rfl⟩ (cn_R_costTogether e_p5) ?_
      refine Sm_eq (st1 := .int p5.1 :: [.int v4, .ref t]) (nc1 := 0) (ns1 := 0) rfl rfl rfl ?_
      refine Sm_run K ek_R_passDays 12 2 rfl ?_
      refine Sm_min K (eok_i (eo ek_R_passDays (i := 14) rfl) rfl) (lgm 297 (by decide +kernel) rfl) rfl (Nat.le_of_ble_eq_true rfl) (Nat.le_of_ble_eq_true rfl) (Nat.zero_le _) (Nat.zero_le _) ?_
      obtain ⟨w7, e_w7, h⟩ := Option.bind_eq_some_iff.mp h
      refine Sm_pi K (eo ek_R_passDays (i := 15) rfl) rfl rfl e_w7 ?_
      refine Sm_run K ek_R_passDays 16 2 rfl ?_
      exact Sm_le (leR_s (leR_s (leR_s (leR_s leR_nil)))) (s_R_passDays_31 K hQ ih FU _ _ _ _ _ h)
set_option maxHeartbeats 4000000 in
set_option maxRecDepth 100000 in
theorem s_R_passDays_0 {G : Gx} {X : Cx} {res : A_W} (K : Ok G X 2 c_R_passDays 4 (none) rm_R_passDays) (hQ : QQ G X none res 0 0) (t : Nat) (x1 : Int32) (w : A_W) (h : F_R_passDays_0 t x1 w = some res) : Sm G X w 0 0 [some (.ref t), some (.int x1), none, none] [] 0 := by
  unfold F_R_passDays_0 at h
  refine Sm_run K ek_R_passDays 0 2 rfl ?_
  exact Sm_le (leR_s (leR_s (leR_s (leR_n leR_nil)))) (s_R_passDays_2 K hQ FU _ _ _ _ h)
def F_R_passDays (t : Nat) (x1 : Int32) (w : A_W) : Option (A_W) := F_R_passDays_0 t x1 w
theorem cn_R_passDays {G : Gx} {t : Nat} {x1 : Int32} {w : A_W} {res : A_W} (h : F_R_passDays t x1 w = some res) : Cn G y_R_passDays c_R_passDays 4 (none) rm_R_passDays [.ref t, .int x1] w none res :=
  Cn_of (own := 2) cy_R_passDays rfl rfl (Nat.le_of_ble_eq_true rfl) rfl (fun X K _ hQ => Sm_le (leR_s (leR_s (leR_n (leR_n leR_nil)))) (s_R_passDays_0 K hQ _ _ _ h))
/-! EveningCloak.go(I)I -/
abbrev c_K_go : ByteArray := prog_1_method_12_code
def y_K_go : MethodName := ⟨"EveningCloak", "go", "(I)I"⟩
def rm_K_go : Room := { frames := 5, cells := 0, slots := 0, locals := 113 }
theorem cy_K_go : Cy y_K_go c_K_go 2 (some .int) 1 := ⟨lgm 365 (by decide +kernel) rfl, lgm 68 (by decide +kernel) rfl, by decide +kernel, by decide +kernel⟩
theorem im_K_go : Cond.instanceMethod y_K_go ∈ lg := lgm 363 (by decide +kernel) rfl
theorem se_K_go : Cond.selects y_K_go.cls y_K_go y_K_go ∈ lg := lgm 364 (by decide +kernel) rfl
def e_K_go : List Ent := [
  (0, .iload_n 1, 1, 1, .null, 0, 0, 0),
  (1, .iconst 1, 1, 2, .int 1, 0, 0, 0),
  (2, .bipush 60, 2, 4, .int 60, 0, 0, 0),
  (4, .invokestatic 40, 3, 7, .null, 0, 0, 0),
  (7, .ifCond .ne 9, 3, 16, .null, 0, 0, 0),
  (10, .aload_n 0, 1, 11, .null, 0, 0, 0),
  (11, .iconst 0, 1, 12, .int 0, 0, 0, 0),
  (12, .invokevirtual 48, 3, 15, .null, 0, 0, 0),
  (15, .ireturn, 1, 16, .null, 0, 0, 0),
  (16, .aload_n 0, 1, 17, .null, 0, 0, 0),
  (17, .getfield 12, 3, 20, .null, 0, 0, 217),
  (20, .getfield 109, 3, 23, .null, 2, 0, 99),
  (23, .iload_n 1, 1, 24, .null, 0, 0, 0),
  (24, .iadd, 1, 25, .null, 0, 0, 0),
  (25, .ldc 112, 2, 27, .int 99999, 0, 0, 366),
  (27, .if_icmp .le 9, 3, 36, .null, 0, 0, 0),
  (30, .aload_n 0, 1, 31, .null, 0, 0, 0),
  (31, .iconst 4, 1, 32, .int 4, 0, 0, 0),
  (32, .invokevirtual 48, 3, 35, .null, 0, 0, 0),
  (35, .ireturn, 1, 36, .null, 0, 0, 0),
  (36, .aload_n 0, 1, 37, .null, 0, 0, 0),
  (37, .getfield 12, 3, 40, .null, 0, 0, 217),
  (40, .iload_n 1, 1, 41, .null, 0, 0, 0),
  (41, .invokevirtual 113, 3, 44, .null, 0, 0, 0),
  (44, .aload_n 0, 1, 45, .null, 0, 0, 0),
  (45, .getfield 12, 3, 48, .null, 0, 0, 217),
  (48, .getfield 117, 3, 51, .null, 2, 1, 101),
  (51, .ireturn, 1, 52, .null, 0, 0, 0)]
set_option maxRecDepth 100000 in
theorem ek_K_go : e_K_go.all (eok 0 c_K_go) = true := by decide +kernel
def F_K_go_0 (t : Nat) (x1 : Int32) (w : A_W) : Option (Int32 × A_W) :=
  (F_K_within x1 1 60 w).bind fun p1 =>
  if p1.1 = 0 then
    (ob p1.2 t 0).bind fun o14 =>
    (F_K_finding t 0 p1.2).bind fun p13 =>
    some (p13.1, p13.2)
  else
    (gr p1.2 t 0 0).bind fun a3 =>
    (gi p1.2 a3 2 0).bind fun v4 =>
    if (v4 + x1) ≤ 99999 then
      (gr p1.2 t 0 0).bind fun a6 =>
      (ob p1.2 a6 2).bind fun o8 =>
      (F_R_passDays a6 x1 p1.2).bind fun p7 =>
      (gr p7 t 0 0).bind fun a9 =>
      (gi p7 a9 2 1).bind fun v10 =>
      some (v10, p7)
    else
      (ob p1.2 t 0).bind fun o12 =>
      (F_K_finding t 4 p1.2).bind fun p11 =>
      some (p11.1, p11.2)
set_option maxHeartbeats 4000000 in
set_option maxRecDepth 100000 in
theorem s_K_go_0 {G : Gx} {X : Cx} {res : Int32 × A_W} (K : Ok G X 0 c_K_go 2 (some .int) rm_K_go) (hQ : QQ G X (some (.int res.1)) res.2 0 0) (t : Nat) (x1 : Int32) (w : A_W) (h : F_K_go_0 t x1 w = some res) : Sm G X w 0 0 [some (.ref t), some (.int x1)] [] 0 := by
  unfold F_K_go_0 at h
  refine Sm_run K ek_K_go 0 3 rfl ?_
  obtain ⟨p1, e_p1, h⟩ := Option.bind_eq_some_iff.mp h
  refine Sm_callS K (eok_i (eo ek_K_go (i := 3) rfl) rfl) cy_K_within st_K_within (lgm 243 (by decide +kernel) rfl) ⟨Nat.le_of_ble_eq_true rfl, Nat.le_of_ble_eq_true rfl⟩ (as := [.int x1, .int 1, .int 60]) (st := []) rfl rfl rfl (Nat.le_of_ble_eq_true rfl) ⟨Nat.le_of_ble_eq_true rfl, Nat.le_of_ble_eq_true rfl⟩ (cn_K_within e_p1) ?_
  refine Sm_eq (st1 := .int p1.1 :: []) (nc1 := 0) (ns1 := 0) rfl rfl rfl ?_
  refine Sm_if_ne K (eo ek_K_go (i := 4) rfl) (fun c2 => ?_) (fun c2 => ?_)
  · rw [if_neg c2] at h
    refine Sm_run K ek_K_go 9 1 rfl ?_
    obtain ⟨a3, e_a3, h⟩ := Option.bind_eq_some_iff.mp h
    refine Sm_gr K (eo ek_K_go (i := 10) rfl) e_a3 ?_
    obtain ⟨v4, e_v4, h⟩ := Option.bind_eq_some_iff.mp h
    refine Sm_gi K (eo ek_K_go (i := 11) rfl) e_v4 ?_
    refine Sm_run K ek_K_go 12 3 rfl ?_
    refine Sm_ic_le K (eo ek_K_go (i := 15) rfl) (fun c5 => ?_) (fun c5 => ?_)
    · rw [if_pos c5] at h
      refine Sm_run K ek_K_go 20 1 rfl ?_
      obtain ⟨a6, e_a6, h⟩ := Option.bind_eq_some_iff.mp h
      refine Sm_gr K (eo ek_K_go (i := 21) rfl) e_a6 ?_
      refine Sm_run K ek_K_go 22 1 rfl ?_
      obtain ⟨o8, e_o8, h⟩ := Option.bind_eq_some_iff.mp h
      obtain ⟨p7, e_p7, h⟩ := Option.bind_eq_some_iff.mp h
      refine Sm_callV K (eok_i (eo ek_K_go (i := 23) rfl) rfl) cy_R_passDays im_R_passDays se_R_passDays (lgm 367 (by decide +kernel) rfl) ⟨Nat.le_of_ble_eq_true rfl, Nat.le_of_ble_eq_true rfl⟩ (as := [.int x1]) (b := a6) (st := []) (ob_e e_o8) (by decide) rfl rfl rfl rfl (Nat.le_of_ble_eq_true rfl) ⟨Nat.le_of_ble_eq_true rfl, Nat.le_of_ble_eq_true rfl⟩ (cn_R_passDays e_p7) ?_
      refine Sm_eq (st1 := []) (nc1 := 0) (ns1 := 0) rfl rfl rfl ?_
      refine Sm_run K ek_K_go 24 1 rfl ?_
      obtain ⟨a9, e_a9, h⟩ := Option.bind_eq_some_iff.mp h
      refine Sm_gr K (eo ek_K_go (i := 25) rfl) e_a9 ?_
      obtain ⟨v10, e_v10, h⟩ := Option.bind_eq_some_iff.mp h
      refine Sm_gi K (eo ek_K_go (i := 26) rfl) e_v10 ?_
      obtain rfl := Option.some.inj h
      exact Sm_reti K hQ (eok_i (eo ek_K_go (i := 27) rfl) rfl)
    · rw [if_neg c5] at h
      refine Sm_run K ek_K_go 16 2 rfl ?_
      obtain ⟨o12, e_o12, h⟩ := Option.bind_eq_some_iff.mp h
      obtain ⟨p11, e_p11, h⟩ := Option.bind_eq_some_iff.mp h
      refine Sm_callV K (eok_i (eo ek_K_go (i := 18) rfl) rfl) cy_K_finding im_K_finding se_K_finding (lgm 249 (by decide +kernel) rfl) ⟨Nat.le_of_ble_eq_true rfl, Nat.le_of_ble_eq_true rfl⟩ (as := [.int 4]) (b := t) (st := []) (ob_e e_o12) (by decide) rfl rfl rfl rfl (Nat.le_of_ble_eq_true rfl) ⟨Nat.le_of_ble_eq_true rfl, Nat.le_of_ble_eq_true rfl⟩ (cn_K_finding e_p11) ?_
      refine Sm_eq (st1 := .int p11.1 :: []) (nc1 := 0) (ns1 := 0) rfl rfl rfl ?_
      obtain rfl := Option.some.inj h
      exact Sm_reti K hQ (eok_i (eo ek_K_go (i := 19) rfl) rfl)
  · rw [if_pos c2] at h
    refine Sm_run K ek_K_go 5 2 rfl ?_
    obtain ⟨o14, e_o14, h⟩ := Option.bind_eq_some_iff.mp h
    obtain ⟨p13, e_p13, h⟩ := Option.bind_eq_some_iff.mp h
    refine Sm_callV K (eok_i (eo ek_K_go (i := 7) rfl) rfl) cy_K_finding im_K_finding se_K_finding (lgm 249 (by decide +kernel) rfl) ⟨Nat.le_of_ble_eq_true rfl, Nat.le_of_ble_eq_true rfl⟩ (as := [.int 0]) (b := t) (st := []) (ob_e e_o14) (by decide) rfl rfl rfl rfl (Nat.le_of_ble_eq_true rfl) ⟨Nat.le_of_ble_eq_true rfl, Nat.le_of_ble_eq_true rfl⟩ (cn_K_finding e_p13) ?_
    refine Sm_eq (st1 := .int p13.1 :: []) (nc1 := 0) (ns1 := 0) rfl rfl rfl ?_
    obtain rfl := Option.some.inj h
    exact Sm_reti K hQ (eok_i (eo ek_K_go (i := 8) rfl) rfl)
def F_K_go (t : Nat) (x1 : Int32) (w : A_W) : Option (Int32 × A_W) := F_K_go_0 t x1 w
theorem cn_K_go {G : Gx} {t : Nat} {x1 : Int32} {w : A_W} {res : Int32 × A_W} (h : F_K_go t x1 w = some res) : Cn G y_K_go c_K_go 2 (some .int) rm_K_go [.ref t, .int x1] w (some (.int res.1)) res.2 :=
  Cn_of (own := 0) cy_K_go rfl rfl (Nat.le_of_ble_eq_true rfl) rfl (fun X K _ hQ => Sm_le (leR_s (leR_s leR_nil)) (s_K_go_0 K hQ _ _ _ h))
/-! EveningCloak$Room.metTogether()I -/
abbrev c_R_metTogether : ByteArray := prog_3_method_21_code
def y_R_metTogether : MethodName := ⟨"EveningCloak$Room", "metTogether", "()I"⟩
def rm_R_metTogether : Room := { frames := 0, cells := 0, slots := 0, locals := 0 }
theorem cy_R_metTogether : Cy y_R_metTogether c_R_metTogether 3 (some .int) 0 := ⟨lgm 391 (by decide +kernel) rfl, lgm 69 (by decide +kernel) rfl, by decide +kernel, by decide +kernel⟩
theorem im_R_metTogether : Cond.instanceMethod y_R_metTogether ∈ lg := lgm 389 (by decide +kernel) rfl
theorem se_R_metTogether : Cond.selects y_R_metTogether.cls y_R_metTogether y_R_metTogether ∈ lg := lgm 390 (by decide +kernel) rfl
def e_R_metTogether : List Ent := [
  (0, .iconst 0, 1, 1, .int 0, 0, 0, 0),
  (1, .istore_n 1, 1, 2, .null, 0, 0, 0),
  (2, .iconst 0, 1, 3, .int 0, 0, 0, 0),
  (3, .istore_n 2, 1, 4, .null, 0, 0, 0),
  (4, .iload_n 2, 1, 5, .null, 0, 0, 0),
  (5, .aload_n 0, 1, 6, .null, 0, 0, 0),
  (6, .getfield 64, 3, 9, .null, 2, 4, 107),
  (9, .if_icmp .ge 18, 3, 27, .null, 0, 0, 0),
  (12, .iload_n 1, 1, 13, .null, 0, 0, 0),
  (13, .aload_n 0, 1, 14, .null, 0, 0, 0),
  (14, .getfield 43, 3, 17, .null, 2, 14, 133),
  (17, .iload_n 2, 1, 18, .null, 0, 0, 0),
  (18, .iaload, 1, 19, .null, 0, 0, 0),
  (19, .iadd, 1, 20, .null, 0, 0, 0),
  (20, .istore_n 1, 1, 21, .null, 0, 0, 0),
  (21, .iinc 2 1, 3, 24, .int 1, 0, 0, 0),
  (24, .goto (-20), 3, 4, .null, 0, 0, 0),
  (27, .iload_n 1, 1, 28, .null, 0, 0, 0),
  (28, .ireturn, 1, 29, .null, 0, 0, 0)]
set_option maxRecDepth 100000 in
theorem ek_R_metTogether : e_R_metTogether.all (eok 2 c_R_metTogether) = true := by decide +kernel
def F_R_metTogether_4 : Nat → Nat → Int32 → Int32 → A_W → Option (Int32 × A_W)
  | 0, _, _, _, _ => none
  | n + 1, t, x1, x2, w =>
    (gi w t 2 4).bind fun v1 =>
    if v1 ≤ x2 then
      some (x1, w)
    else
      (gr w t 2 14).bind fun a3 =>
      (rd w a3 x2).bind fun v4 =>
      F_R_metTogether_4 n t (x1 + v4) (x2 + 1) w
def F_R_metTogether_0 (t : Nat) (w : A_W) : Option (Int32 × A_W) :=
  F_R_metTogether_4 FU t 0 0 w
set_option maxHeartbeats 4000000 in
set_option maxRecDepth 100000 in
theorem s_R_metTogether_4 {G : Gx} {X : Cx} {res : Int32 × A_W} (K : Ok G X 2 c_R_metTogether 3 (some .int) rm_R_metTogether) (hQ : QQ G X (some (.int res.1)) res.2 0 0) : ∀ (n : Nat) (t : Nat) (x1 : Int32) (x2 : Int32) (w : A_W), F_R_metTogether_4 n t x1 x2 w = some res → Sm G X w 0 0 [some (.ref t), some (.int x1), some (.int x2)] [] 4 := by
  intro n
  induction n with
  | zero => intro t x1 x2 w h; cases h
  | succ n ih =>
    intro t x1 x2 w h
    rw [F_R_metTogether_4] at h
    refine Sm_run K ek_R_metTogether 4 2 rfl ?_
    obtain ⟨v1, e_v1, h⟩ := Option.bind_eq_some_iff.mp h
    refine Sm_gi K (eo ek_R_metTogether (i := 6) rfl) e_v1 ?_
    refine Sm_ic_ge K (eo ek_R_metTogether (i := 7) rfl) (fun c2 => ?_) (fun c2 => ?_)
    · rw [if_pos c2] at h
      refine Sm_run K ek_R_metTogether 17 1 rfl ?_
      obtain rfl := Option.some.inj h
      exact Sm_reti K hQ (eok_i (eo ek_R_metTogether (i := 18) rfl) rfl)
    · rw [if_neg c2] at h
      refine Sm_run K ek_R_metTogether 8 2 rfl ?_
      obtain ⟨a3, e_a3, h⟩ := Option.bind_eq_some_iff.mp h
      refine Sm_gr K (eo ek_R_metTogether (i := 10) rfl) e_a3 ?_
      refine Sm_run K ek_R_metTogether 11 1 rfl ?_
      obtain ⟨v4, e_v4, h⟩ := Option.bind_eq_some_iff.mp h
      refine Sm_rd K (eok_i (eo ek_R_metTogether (i := 12) rfl) rfl) e_v4 ?_
      refine Sm_run K ek_R_metTogether 13 4 rfl ?_
      exact Sm_le (leR_s (leR_s (leR_s leR_nil))) (ih _ _ _ _ h)
set_option maxHeartbeats 4000000 in
set_option maxRecDepth 100000 in
theorem s_R_metTogether_0 {G : Gx} {X : Cx} {res : Int32 × A_W} (K : Ok G X 2 c_R_metTogether 3 (some .int) rm_R_metTogether) (hQ : QQ G X (some (.int res.1)) res.2 0 0) (t : Nat) (w : A_W) (h : F_R_metTogether_0 t w = some res) : Sm G X w 0 0 [some (.ref t), none, none] [] 0 := by
  unfold F_R_metTogether_0 at h
  refine Sm_run K ek_R_metTogether 0 4 rfl ?_
  exact Sm_le (leR_s (leR_s (leR_s leR_nil))) (s_R_metTogether_4 K hQ FU _ _ _ _ h)
def F_R_metTogether (t : Nat) (w : A_W) : Option (Int32 × A_W) := F_R_metTogether_0 t w
theorem cn_R_metTogether {G : Gx} {t : Nat} {w : A_W} {res : Int32 × A_W} (h : F_R_metTogether t w = some res) : Cn G y_R_metTogether c_R_metTogether 3 (some .int) rm_R_metTogether [.ref t] w (some (.int res.1)) res.2 :=
  Cn_of (own := 2) cy_R_metTogether rfl rfl (Nat.le_of_ble_eq_true rfl) rfl (fun X K _ hQ => Sm_le (leR_s (leR_n (leR_n leR_nil))) (s_R_metTogether_0 K hQ _ _ h))
/-! EveningCloak$Room.outSet()I -/
abbrev c_R_outSet : ByteArray := prog_3_method_23_code
def y_R_outSet : MethodName := ⟨"EveningCloak$Room", "outSet", "()I"⟩
def rm_R_outSet : Room := { frames := 0, cells := 0, slots := 0, locals := 0 }
theorem cy_R_outSet : Cy y_R_outSet c_R_outSet 3 (some .int) 0 := ⟨lgm 395 (by decide +kernel) rfl, lgm 69 (by decide +kernel) rfl, by decide +kernel, by decide +kernel⟩
theorem im_R_outSet : Cond.instanceMethod y_R_outSet ∈ lg := lgm 393 (by decide +kernel) rfl
theorem se_R_outSet : Cond.selects y_R_outSet.cls y_R_outSet y_R_outSet ∈ lg := lgm 394 (by decide +kernel) rfl
def e_R_outSet : List Ent := [
  (0, .iconst 0, 1, 1, .int 0, 0, 0, 0),
  (1, .istore_n 1, 1, 2, .null, 0, 0, 0),
  (2, .iconst 0, 1, 3, .int 0, 0, 0, 0),
  (3, .istore_n 2, 1, 4, .null, 0, 0, 0),
  (4, .iload_n 2, 1, 5, .null, 0, 0, 0),
  (5, .aload_n 0, 1, 6, .null, 0, 0, 0),
  (6, .getfield 61, 3, 9, .null, 2, 3, 104),
  (9, .if_icmp .ge 24, 3, 33, .null, 0, 0, 0),
  (12, .aload_n 0, 1, 13, .null, 0, 0, 0),
  (13, .getfield 34, 3, 16, .null, 2, 11, 125),
  (16, .iload_n 2, 1, 17, .null, 0, 0, 0),
  (17, .iaload, 1, 18, .null, 0, 0, 0),
  (18, .ifCond .eq 9, 3, 27, .null, 0, 0, 0),
  (21, .iload_n 1, 1, 22, .null, 0, 0, 0),
  (22, .iconst 1, 1, 23, .int 1, 0, 0, 0),
  (23, .iload_n 2, 1, 24, .null, 0, 0, 0),
  (24, .ishl, 1, 25, .null, 0, 0, 0),
  (25, .ior, 1, 26, .null, 0, 0, 0),
  (26, .istore_n 1, 1, 27, .null, 0, 0, 0),
  (27, .iinc 2 1, 3, 30, .int 1, 0, 0, 0),
  (30, .goto (-26), 3, 4, .null, 0, 0, 0),
  (33, .iload_n 1, 1, 34, .null, 0, 0, 0),
  (34, .ireturn, 1, 35, .null, 0, 0, 0)]
set_option maxRecDepth 100000 in
theorem ek_R_outSet : e_R_outSet.all (eok 2 c_R_outSet) = true := by decide +kernel
def F_R_outSet_27 (k4 : Nat → Int32 → Int32 → A_W → Option (Int32 × A_W)) (t : Nat) (x1 : Int32) (x2 : Int32) (w : A_W) : Option (Int32 × A_W) :=
  k4 t x1 (x2 + 1) w
def F_R_outSet_4 : Nat → Nat → Int32 → Int32 → A_W → Option (Int32 × A_W)
  | 0, _, _, _, _ => none
  | n + 1, t, x1, x2, w =>
    (gi w t 2 3).bind fun v1 =>
    if v1 ≤ x2 then
      some (x1, w)
    else
      (gr w t 2 11).bind fun a3 =>
      (rd w a3 x2).bind fun v4 =>
      if v4 = 0 then
        F_R_outSet_27 (F_R_outSet_4 n) t x1 x2 w
      else
        F_R_outSet_27 (F_R_outSet_4 n) t (x1 ||| (1 <<< (x2 &&& 31))) x2 w
def F_R_outSet_0 (t : Nat) (w : A_W) : Option (Int32 × A_W) :=
  F_R_outSet_4 FU t 0 0 w
set_option maxHeartbeats 4000000 in
set_option maxRecDepth 100000 in
theorem s_R_outSet_27 {G : Gx} {X : Cx} {res : Int32 × A_W} (K : Ok G X 2 c_R_outSet 3 (some .int) rm_R_outSet) (hQ : QQ G X (some (.int res.1)) res.2 0 0) {k4 : Nat → Int32 → Int32 → A_W → Option (Int32 × A_W)} (hk4 : ∀ (t : Nat) (x1 : Int32) (x2 : Int32) (w : A_W), k4 t x1 x2 w = some res → Sm G X w 0 0 [some (.ref t), some (.int x1), some (.int x2)] [] 4) (t : Nat) (x1 : Int32) (x2 : Int32) (w : A_W) (h : F_R_outSet_27 k4 t x1 x2 w = some res) : Sm G X w 0 0 [some (.ref t), some (.int x1), some (.int x2)] [] 27 := by
  unfold F_R_outSet_27 at h
  refine Sm_run K ek_R_outSet 19 2 rfl ?_
  exact Sm_le (leR_s (leR_s (leR_s leR_nil))) (hk4 _ _ _ _ h)
set_option maxHeartbeats 4000000 in
set_option maxRecDepth 100000 in
theorem s_R_outSet_4 {G : Gx} {X : Cx} {res : Int32 × A_W} (K : Ok G X 2 c_R_outSet 3 (some .int) rm_R_outSet) (hQ : QQ G X (some (.int res.1)) res.2 0 0) : ∀ (n : Nat) (t : Nat) (x1 : Int32) (x2 : Int32) (w : A_W), F_R_outSet_4 n t x1 x2 w = some res → Sm G X w 0 0 [some (.ref t), some (.int x1), some (.int x2)] [] 4 := by
  intro n
  induction n with
  | zero => intro t x1 x2 w h; cases h
  | succ n ih =>
    intro t x1 x2 w h
    rw [F_R_outSet_4] at h
    refine Sm_run K ek_R_outSet 4 2 rfl ?_
    obtain ⟨v1, e_v1, h⟩ := Option.bind_eq_some_iff.mp h
    refine Sm_gi K (eo ek_R_outSet (i := 6) rfl) e_v1 ?_
    refine Sm_ic_ge K (eo ek_R_outSet (i := 7) rfl) (fun c2 => ?_) (fun c2 => ?_)
    · rw [if_pos c2] at h
      refine Sm_run K ek_R_outSet 21 1 rfl ?_
      obtain rfl := Option.some.inj h
      exact Sm_reti K hQ (eok_i (eo ek_R_outSet (i := 22) rfl) rfl)
    · rw [if_neg c2] at h
      refine Sm_run K ek_R_outSet 8 1 rfl ?_
      obtain ⟨a3, e_a3, h⟩ := Option.bind_eq_some_iff.mp h
      refine Sm_gr K (eo ek_R_outSet (i := 9) rfl) e_a3 ?_
      refine Sm_run K ek_R_outSet 10 1 rfl ?_
      obtain ⟨v4, e_v4, h⟩ := Option.bind_eq_some_iff.mp h
      refine Sm_rd K (eok_i (eo ek_R_outSet (i := 11) rfl) rfl) e_v4 ?_
      refine Sm_if_eq K (eo ek_R_outSet (i := 12) rfl) (fun c5 => ?_) (fun c5 => ?_)
      · rw [if_pos c5] at h
        exact Sm_le (leR_s (leR_s (leR_s leR_nil))) (s_R_outSet_27 K hQ ih _ _ _ _ h)
      · rw [if_neg c5] at h
        refine Sm_run K ek_R_outSet 13 6 rfl ?_
        exact Sm_le (leR_s (leR_s (leR_s leR_nil))) (s_R_outSet_27 K hQ ih _ _ _ _ h)
set_option maxHeartbeats 4000000 in
set_option maxRecDepth 100000 in
theorem s_R_outSet_0 {G : Gx} {X : Cx} {res : Int32 × A_W} (K : Ok G X 2 c_R_outSet 3 (some .int) rm_R_outSet) (hQ : QQ G X (some (.int res.1)) res.2 0 0) (t : Nat) (w : A_W) (h : F_R_outSet_0 t w = some res) : Sm G X w 0 0 [some (.ref t), none, none] [] 0 := by
  unfold F_R_outSet_0 at h
  refine Sm_run K ek_R_outSet 0 4 rfl ?_
  exact Sm_le (leR_s (leR_s (leR_s leR_nil))) (s_R_outSet_4 K hQ FU _ _ _ _ h)
def F_R_outSet (t : Nat) (w : A_W) : Option (Int32 × A_W) := F_R_outSet_0 t w
theorem cn_R_outSet {G : Gx} {t : Nat} {w : A_W} {res : Int32 × A_W} (h : F_R_outSet t w = some res) : Cn G y_R_outSet c_R_outSet 3 (some .int) rm_R_outSet [.ref t] w (some (.int res.1)) res.2 :=
  Cn_of (own := 2) cy_R_outSet rfl rfl (Nat.le_of_ble_eq_true rfl) rfl (fun X K _ hQ => Sm_le (leR_s (leR_n (leR_n leR_nil))) (s_R_outSet_0 K hQ _ _ h))
