/-! EveningCloak.load(I)I -/
abbrev c_K_load : ByteArray := prog_1_method_38_code
def y_K_load : MethodName := ⟨"EveningCloak", "load", "(I)I"⟩
def rm_K_load : Room := { frames := 2, cells := 0, slots := 0, locals := 42 }
theorem cy_K_load : Cy y_K_load c_K_load 5 (some .int) 1 := ⟨lgm 723 (by decide +kernel) rfl, lgm 68 (by decide +kernel) rfl, by decide +kernel, by decide +kernel⟩
theorem im_K_load : Cond.instanceMethod y_K_load ∈ lg := lgm 721 (by decide +kernel) rfl
theorem se_K_load : Cond.selects y_K_load.cls y_K_load y_K_load ∈ lg := lgm 722 (by decide +kernel) rfl
def e_K_load : List Ent := [
  (0, .iload_n 1, 1, 1, .null, 0, 0, 0),
  (1, .invokestatic 207, 3, 4, .null, 0, 0, 0),
  (4, .ifCond .ne 9, 3, 13, .null, 0, 0, 0),
  (7, .aload_n 0, 1, 8, .null, 0, 0, 0),
  (8, .iconst 0, 1, 9, .int 0, 0, 0, 0),
  (9, .invokevirtual 48, 3, 12, .null, 0, 0, 0),
  (12, .ireturn, 1, 13, .null, 0, 0, 0),
  (13, .aload_n 0, 1, 14, .null, 0, 0, 0),
  (14, .getfield 31, 3, 17, .null, 0, 5, 222),
  (17, .iload_n 1, 1, 18, .null, 0, 0, 0),
  (18, .aaload, 1, 19, .null, 0, 0, 0),
  (19, .invokevirtual 217, 3, 22, .null, 0, 0, 0),
  (22, .ifCond .eq 9, 3, 31, .null, 0, 0, 0),
  (25, .aload_n 0, 1, 26, .null, 0, 0, 0),
  (26, .iconst 5, 1, 27, .int 5, 0, 0, 0),
  (27, .invokevirtual 48, 3, 30, .null, 0, 0, 0),
  (30, .ireturn, 1, 31, .null, 0, 0, 0),
  (31, .aload_n 0, 1, 32, .null, 0, 0, 0),
  (32, .getfield 31, 3, 35, .null, 0, 5, 222),
  (35, .iload_n 1, 1, 36, .null, 0, 0, 0),
  (36, .aaload, 1, 37, .null, 0, 0, 0),
  (37, .getfield 214, 3, 40, .null, 3, 1, 207),
  (40, .aload_n 0, 1, 41, .null, 0, 0, 0),
  (41, .getfield 12, 3, 44, .null, 0, 0, 217),
  (44, .getfield 62, 3, 47, .null, 2, 3, 105),
  (47, .invokestatic 239, 3, 50, .null, 0, 0, 0),
  (50, .istore_n 2, 1, 51, .null, 0, 0, 0),
  (51, .iconst 0, 1, 52, .int 0, 0, 0, 0),
  (52, .istore_n 3, 1, 53, .null, 0, 0, 0),
  (53, .iload_n 3, 1, 54, .null, 0, 0, 0),
  (54, .iload_n 2, 1, 55, .null, 0, 0, 0),
  (55, .if_icmp .ge 46, 3, 101, .null, 0, 0, 0),
  (58, .aload_n 0, 1, 59, .null, 0, 0, 0),
  (59, .getfield 31, 3, 62, .null, 0, 5, 222),
  (62, .iload_n 1, 1, 63, .null, 0, 0, 0),
  (63, .aaload, 1, 64, .null, 0, 0, 0),
  (64, .getfield 230, 3, 67, .null, 3, 2, 209),
  (67, .iload_n 3, 1, 68, .null, 0, 0, 0),
  (68, .iaload, 1, 69, .null, 0, 0, 0),
  (69, .istore 4, 2, 71, .null, 0, 0, 0),
  (71, .iload 4, 2, 73, .null, 0, 0, 0),
  (73, .iconst 0, 1, 74, .int 0, 0, 0, 0),
  (74, .bipush 99, 2, 76, .int 99, 0, 0, 0),
  (76, .invokestatic 40, 3, 79, .null, 0, 0, 0),
  (79, .ifCond .ne 5, 3, 84, .null, 0, 0, 0),
  (82, .iload_n 3, 1, 83, .null, 0, 0, 0),
  (83, .ireturn, 1, 84, .null, 0, 0, 0),
  (84, .aload_n 0, 1, 85, .null, 0, 0, 0),
  (85, .getfield 12, 3, 88, .null, 0, 0, 217),
  (88, .getfield 103, 3, 91, .null, 2, 8, 119),
  (91, .iload_n 3, 1, 92, .null, 0, 0, 0),
  (92, .iload 4, 2, 94, .null, 0, 0, 0),
  (94, .iastore, 1, 95, .null, 0, 0, 0),
  (95, .iinc 3 1, 3, 98, .int 1, 0, 0, 0),
  (98, .goto (-45), 3, 53, .null, 0, 0, 0),
  (101, .iload_n 2, 1, 102, .null, 0, 0, 0),
  (102, .ireturn, 1, 103, .null, 0, 0, 0)]
set_option maxRecDepth 100000 in
theorem ek_K_load : e_K_load.all (eok 0 c_K_load) = true := by decide +kernel
def F_K_load_53 : Nat → Nat → Int32 → Int32 → Int32 → A_W → Option (Int32 × A_W)
  | 0, _, _, _, _, _ => none
  | n + 1, t, x1, x2, x3, w =>
    if x2 ≤ x3 then
      some (x2, w)
    else
      (gr w t 0 5).bind fun a2 =>
      (ra w a2 x1).bind fun a3 =>
      (gr w a3 3 2).bind fun a4 =>
      (rd w a4 x3).bind fun v5 =>
      (F_K_within v5 0 99 w).bind fun p6 =>
      if p6.1 = 0 then
        some (x3, p6.2)
      else
        (gr p6.2 t 0 0).bind fun a8 =>
        (gr p6.2 a8 2 8).bind fun a9 =>
        (wr p6.2 a9 x3 v5).bind fun w10 =>
        F_K_load_53 n t x1 x2 (x3 + 1) w10
def F_K_load_0 (t : Nat) (x1 : Int32) (w : A_W) : Option (Int32 × A_W) :=
  (F_K_isSheet x1 w).bind fun p1 =>
  if p1.1 = 0 then
    (ob p1.2 t 0).bind fun o16 =>
    (F_K_finding t 0 p1.2).bind fun p15 =>
    some (p15.1, p15.2)
  else
    (gr p1.2 t 0 5).bind fun a3 =>
    (ra p1.2 a3 x1).bind fun a4 =>
    (ob p1.2 a4 3).bind fun o6 =>
    (F_S_isMissing a4 p1.2).bind fun p5 =>
    if p5.1 = 0 then
      (gr p5.2 t 0 5).bind fun a8 =>
      (ra p5.2 a8 x1).bind fun a9 =>
      (gi p5.2 a9 3 1).bind fun v10 =>
      (gr p5.2 t 0 0).bind fun a11 =>
      (gi p5.2 a11 2 3).bind fun v12 =>
      F_K_load_53 FU t x1 (jmin v10 v12) 0 p5.2
    else
      (ob p5.2 t 0).bind fun o14 =>
      (F_K_finding t 5 p5.2).bind fun p13 =>
      some (p13.1, p13.2)
set_option maxHeartbeats 4000000 in
set_option maxRecDepth 100000 in
theorem s_K_load_53 {G : Gx} {X : Cx} {res : Int32 × A_W} (K : Ok G X 0 c_K_load 5 (some .int) rm_K_load) (hQ : QQ G X (some (.int res.1)) res.2 0 0) : ∀ (n : Nat) (t : Nat) (x1 : Int32) (x2 : Int32) (x3 : Int32) (w : A_W), F_K_load_53 n t x1 x2 x3 w = some res → Sm G X w 0 0 [some (.ref t), some (.int x1), some (.int x2), some (.int x3), none] [] 53 := by
  intro n
  induction n with
  | zero => intro t x1 x2 x3 w h; cases h
  | succ n ih =>
    intro t x1 x2 x3 w h
    rw [F_K_load_53] at h
    refine Sm_run K ek_K_load 29 2 rfl ?_
    refine Sm_ic_ge K (eo ek_K_load (i := 31) rfl) (fun c1 => ?_) (fun c1 => ?_)
    · rw [if_pos c1] at h
      refine Sm_run K ek_K_load 55 1 rfl ?_
      obtain rfl := Option.some.inj h
      exact Sm_reti K hQ (eok_i (eo ek_K_load (i := 56) rfl) rfl)
    · rw [if_neg c1] at h
      refine Sm_run K ek_K_load 32 1 rfl ?_
      obtain ⟨a2, e_a2, h⟩ := Option.bind_eq_some_iff.mp h
      refine Sm_gr K (eo ek_K_load (i := 33) rfl) e_a2 ?_
      refine Sm_run K ek_K_load 34 1 rfl ?_
      obtain ⟨a3, e_a3, h⟩ := Option.bind_eq_some_iff.mp h
      refine Sm_ra K (eok_i (eo ek_K_load (i := 35) rfl) rfl) e_a3 ?_
      obtain ⟨a4, e_a4, h⟩ := Option.bind_eq_some_iff.mp h
      refine Sm_gr K (eo ek_K_load (i := 36) rfl) e_a4 ?_
      refine Sm_run K ek_K_load 37 1 rfl ?_
      obtain ⟨v5, e_v5, h⟩ := Option.bind_eq_some_iff.mp h
      refine Sm_rd K (eok_i (eo ek_K_load (i := 38) rfl) rfl) e_v5 ?_
      refine Sm_run K ek_K_load 39 4 rfl ?_
      obtain ⟨p6, e_p6, h⟩ := Option.bind_eq_some_iff.mp h
      refine Sm_callS K (eok_i (eo ek_K_load (i := 43) rfl) rfl) cy_K_within st_K_within (lgm 243 (by decide +kernel) rfl) ⟨Nat.le_of_ble_eq_true rfl, Nat.le_of_ble_eq_true rfl⟩ (as := [.int v5, .int 0, .int 99]) (st := []) rfl rfl rfl (Nat.le_of_ble_eq_true rfl) ⟨Nat.le_of_ble_eq_true rfl, Nat.le_of_ble_eq_true rfl⟩ (cn_K_within e_p6) ?_
      refine Sm_eq (st1 := .int p6.1 :: []) (nc1 := 0) (ns1 := 0) rfl rfl rfl ?_
      refine Sm_if_ne K (eo ek_K_load (i := 44) rfl) (fun c7 => ?_) (fun c7 => ?_)
      · rw [if_neg c7] at h
        refine Sm_run K ek_K_load 47 1 rfl ?_
        obtain ⟨a8, e_a8, h⟩ := Option.bind_eq_some_iff.mp h
        refine Sm_gr K (eo ek_K_load (i := 48) rfl) e_a8 ?_
        obtain ⟨a9, e_a9, h⟩ := Option.bind_eq_some_iff.mp h
        refine Sm_gr K (eo ek_K_load (i := 49) rfl) e_a9 ?_
        refine Sm_run K ek_K_load 50 2 rfl ?_
        obtain ⟨w10, e_w10, h⟩ := Option.bind_eq_some_iff.mp h
        refine Sm_wr K (eok_i (eo ek_K_load (i := 52) rfl) rfl) e_w10 ?_
        refine Sm_run K ek_K_load 53 2 rfl ?_
        exact Sm_le (leR_s (leR_s (leR_s (leR_s (leR_n leR_nil))))) (ih _ _ _ _ _ h)
      · rw [if_pos c7] at h
        refine Sm_run K ek_K_load 45 1 rfl ?_
        obtain rfl := Option.some.inj h
        exact Sm_reti K hQ (eok_i (eo ek_K_load (i := 46) rfl) rfl)
set_option maxHeartbeats 4000000 in
set_option maxRecDepth 100000 in
theorem s_K_load_0 {G : Gx} {X : Cx} {res : Int32 × A_W} (K : Ok G X 0 c_K_load 5 (some .int) rm_K_load) (hQ : QQ G X (some (.int res.1)) res.2 0 0) (t : Nat) (x1 : Int32) (w : A_W) (h : F_K_load_0 t x1 w = some res) : Sm G X w 0 0 [some (.ref t), some (.int x1), none, none, none] [] 0 := by
  unfold F_K_load_0 at h
  refine Sm_run K ek_K_load 0 1 rfl ?_
  obtain ⟨p1, e_p1, h⟩ := Option.bind_eq_some_iff.mp h
  refine Sm_callS K (eok_i (eo ek_K_load (i := 1) rfl) rfl) cy_K_isSheet st_K_isSheet (lgm 508 (by decide +kernel) rfl) ⟨Nat.le_of_ble_eq_true rfl, Nat.le_of_ble_eq_true rfl⟩ (as := [.int x1]) (st := []) rfl rfl rfl (Nat.le_of_ble_eq_true rfl) ⟨Nat.le_of_ble_eq_true rfl, Nat.le_of_ble_eq_true rfl⟩ (cn_K_isSheet e_p1) ?_
  refine Sm_eq (st1 := .int p1.1 :: []) (nc1 := 0) (ns1 := 0) rfl rfl rfl ?_
  refine Sm_if_ne K (eo ek_K_load (i := 2) rfl) (fun c2 => ?_) (fun c2 => ?_)
  · rw [if_neg c2] at h
    refine Sm_run K ek_K_load 7 1 rfl ?_
    obtain ⟨a3, e_a3, h⟩ := Option.bind_eq_some_iff.mp h
    refine Sm_gr K (eo ek_K_load (i := 8) rfl) e_a3 ?_
    refine Sm_run K ek_K_load 9 1 rfl ?_
    obtain ⟨a4, e_a4, h⟩ := Option.bind_eq_some_iff.mp h
    refine Sm_ra K (eok_i (eo ek_K_load (i := 10) rfl) rfl) e_a4 ?_
    obtain ⟨o6, e_o6, h⟩ := Option.bind_eq_some_iff.mp h
    obtain ⟨p5, e_p5, h⟩ := Option.bind_eq_some_iff.mp h
    refine Sm_callV K (eok_i (eo ek_K_load (i := 11) rfl) rfl) cy_S_isMissing im_S_isMissing se_S_isMissing (lgm 511 (by decide +kernel) rfl) ⟨Nat.le_of_ble_eq_true rfl, Nat.le_of_ble_eq_true rfl⟩ (as := []) (b := a4) (st := []) (ob_e e_o6) (by decide) rfl rfl rfl rfl (Nat.le_of_ble_eq_true rfl) ⟨Nat.le_of_ble_eq_true rfl, Nat.le_of_ble_eq_true rfl⟩ (cn_S_isMissing e_p5) ?_
    refine Sm_eq (st1 := .int p5.1 :: []) (nc1 := 0) (ns1 := 0) rfl rfl rfl ?_
    refine Sm_if_eq K (eo ek_K_load (i := 12) rfl) (fun c7 => ?_) (fun c7 => ?_)
    · rw [if_pos c7] at h
      refine Sm_run K ek_K_load 17 1 rfl ?_
      obtain ⟨a8, e_a8, h⟩ := Option.bind_eq_some_iff.mp h
      refine Sm_gr K (eo ek_K_load (i := 18) rfl) e_a8 ?_
      refine Sm_run K ek_K_load 19 1 rfl ?_
      obtain ⟨a9, e_a9, h⟩ := Option.bind_eq_some_iff.mp h
      refine Sm_ra K (eok_i (eo ek_K_load (i := 20) rfl) rfl) e_a9 ?_
      obtain ⟨v10, e_v10, h⟩ := Option.bind_eq_some_iff.mp h
      refine Sm_gi K (eo ek_K_load (i := 21) rfl) e_v10 ?_
      refine Sm_run K ek_K_load 22 1 rfl ?_
      obtain ⟨a11, e_a11, h⟩ := Option.bind_eq_some_iff.mp h
      refine Sm_gr K (eo ek_K_load (i := 23) rfl) e_a11 ?_
      obtain ⟨v12, e_v12, h⟩ := Option.bind_eq_some_iff.mp h
      refine Sm_gi K (eo ek_K_load (i := 24) rfl) e_v12 ?_
      refine Sm_min K (eok_i (eo ek_K_load (i := 25) rfl) rfl) (lgm 523 (by decide +kernel) rfl) rfl (Nat.le_of_ble_eq_true rfl) (Nat.le_of_ble_eq_true rfl) (Nat.zero_le _) (Nat.zero_le _) ?_
      refine Sm_run K ek_K_load 26 3 rfl ?_
      exact Sm_le (leR_s (leR_s (leR_s (leR_s (leR_n leR_nil))))) (s_K_load_53 K hQ FU _ _ _ _ _ h)
    · rw [if_neg c7] at h
      refine Sm_run K ek_K_load 13 2 rfl ?_
      obtain ⟨o14, e_o14, h⟩ := Option.bind_eq_some_iff.mp h
      obtain ⟨p13, e_p13, h⟩ := Option.bind_eq_some_iff.mp h
      refine Sm_callV K (eok_i (eo ek_K_load (i := 15) rfl) rfl) cy_K_finding im_K_finding se_K_finding (lgm 249 (by decide +kernel) rfl) ⟨Nat.le_of_ble_eq_true rfl, Nat.le_of_ble_eq_true rfl⟩ (as := [.int 5]) (b := t) (st := []) (ob_e e_o14) (by decide) rfl rfl rfl rfl (Nat.le_of_ble_eq_true rfl) ⟨Nat.le_of_ble_eq_true rfl, Nat.le_of_ble_eq_true rfl⟩ (cn_K_finding e_p13) ?_
      refine Sm_eq (st1 := .int p13.1 :: []) (nc1 := 0) (ns1 := 0) rfl rfl rfl ?_
      obtain rfl := Option.some.inj h
      exact Sm_reti K hQ (eok_i (eo ek_K_load (i := 16) rfl) rfl)
  · rw [if_pos c2] at h
    refine Sm_run K ek_K_load 3 2 rfl ?_
    obtain ⟨o16, e_o16, h⟩ := Option.bind_eq_some_iff.mp h
    obtain ⟨p15, e_p15, h⟩ := Option.bind_eq_some_iff.mp h
    refine Sm_callV K (eok_i (eo ek_K_load (i := 5) rfl) rfl) cy_K_finding im_K_finding se_K_finding (lgm 249 (by decide +kernel) rfl) ⟨Nat.le_of_ble_eq_true rfl, Nat.le_of_ble_eq_true rfl⟩ (as := [.int 0]) (b := t) (st := []) (ob_e e_o16) (by decide) rfl rfl rfl rfl (Nat.le_of_ble_eq_true rfl) ⟨Nat.le_of_ble_eq_true rfl, Nat.le_of_ble_eq_true rfl⟩ (cn_K_finding e_p15) ?_
    refine Sm_eq (st1 := .int p15.1 :: []) (nc1 := 0) (ns1 := 0) rfl rfl rfl ?_
    obtain rfl := Option.some.inj h
    exact Sm_reti K hQ (eok_i (eo ek_K_load (i := 6) rfl) rfl)
def F_K_load (t : Nat) (x1 : Int32) (w : A_W) : Option (Int32 × A_W) := F_K_load_0 t x1 w
theorem cn_K_load {G : Gx} {t : Nat} {x1 : Int32} {w : A_W} {res : Int32 × A_W} (h : F_K_load t x1 w = some res) : Cn G y_K_load c_K_load 5 (some .int) rm_K_load [.ref t, .int x1] w (some (.int res.1)) res.2 :=
  Cn_of (own := 0) cy_K_load rfl rfl (Nat.le_of_ble_eq_true rfl) rfl (fun X K _ hQ => Sm_le (leR_s (leR_s (leR_n (leR_n (leR_n leR_nil))))) (s_K_load_0 K hQ _ _ _ h))
/-! EveningCloak.judge(I)I -/
abbrev c_K_judge : ByteArray := prog_1_method_39_code
def y_K_judge : MethodName := ⟨"EveningCloak", "judge", "(I)I"⟩
def rm_K_judge : Room := { frames := 2, cells := 0, slots := 0, locals := 43 }
theorem cy_K_judge : Cy y_K_judge c_K_judge 3 (some .int) 1 := ⟨lgm 727 (by decide +kernel) rfl, lgm 68 (by decide +kernel) rfl, by decide +kernel, by decide +kernel⟩
theorem im_K_judge : Cond.instanceMethod y_K_judge ∈ lg := lgm 725 (by decide +kernel) rfl
theorem se_K_judge : Cond.selects y_K_judge.cls y_K_judge y_K_judge ∈ lg := lgm 726 (by decide +kernel) rfl
def e_K_judge : List Ent := [
  (0, .iload_n 1, 1, 1, .null, 0, 0, 0),
  (1, .invokestatic 207, 3, 4, .null, 0, 0, 0),
  (4, .ifCond .ne 9, 3, 13, .null, 0, 0, 0),
  (7, .aload_n 0, 1, 8, .null, 0, 0, 0),
  (8, .iconst 0, 1, 9, .int 0, 0, 0, 0),
  (9, .invokevirtual 48, 3, 12, .null, 0, 0, 0),
  (12, .ireturn, 1, 13, .null, 0, 0, 0),
  (13, .aload_n 0, 1, 14, .null, 0, 0, 0),
  (14, .getfield 31, 3, 17, .null, 0, 5, 222),
  (17, .iload_n 1, 1, 18, .null, 0, 0, 0),
  (18, .aaload, 1, 19, .null, 0, 0, 0),
  (19, .invokevirtual 217, 3, 22, .null, 0, 0, 0),
  (22, .ifCond .eq 9, 3, 31, .null, 0, 0, 0),
  (25, .aload_n 0, 1, 26, .null, 0, 0, 0),
  (26, .iconst 5, 1, 27, .int 5, 0, 0, 0),
  (27, .invokevirtual 48, 3, 30, .null, 0, 0, 0),
  (30, .ireturn, 1, 31, .null, 0, 0, 0),
  (31, .iconst 0, 1, 32, .int 0, 0, 0, 0),
  (32, .istore_n 2, 1, 33, .null, 0, 0, 0),
  (33, .iload_n 2, 1, 34, .null, 0, 0, 0),
  (34, .aload_n 0, 1, 35, .null, 0, 0, 0),
  (35, .getfield 31, 3, 38, .null, 0, 5, 222),
  (38, .iload_n 1, 1, 39, .null, 0, 0, 0),
  (39, .aaload, 1, 40, .null, 0, 0, 0),
  (40, .getfield 214, 3, 43, .null, 3, 1, 207),
  (43, .if_icmp .ge 47, 3, 90, .null, 0, 0, 0),
  (46, .aload_n 0, 1, 47, .null, 0, 0, 0),
  (47, .getfield 12, 3, 50, .null, 0, 0, 217),
  (50, .iload_n 2, 1, 51, .null, 0, 0, 0),
  (51, .invokevirtual 75, 3, 54, .null, 0, 0, 0),
  (54, .ifCond .eq 26, 3, 80, .null, 0, 0, 0),
  (57, .aload_n 0, 1, 58, .null, 0, 0, 0),
  (58, .getfield 12, 3, 61, .null, 0, 0, 217),
  (61, .getfield 244, 3, 64, .null, 2, 10, 124),
  (64, .iload_n 2, 1, 65, .null, 0, 0, 0),
  (65, .iaload, 1, 66, .null, 0, 0, 0),
  (66, .aload_n 0, 1, 67, .null, 0, 0, 0),
  (67, .getfield 31, 3, 70, .null, 0, 5, 222),
  (70, .iload_n 1, 1, 71, .null, 0, 0, 0),
  (71, .aaload, 1, 72, .null, 0, 0, 0),
  (72, .getfield 230, 3, 75, .null, 3, 2, 209),
  (75, .iload_n 2, 1, 76, .null, 0, 0, 0),
  (76, .iaload, 1, 77, .null, 0, 0, 0),
  (77, .if_icmp .eq 7, 3, 84, .null, 0, 0, 0),
  (80, .iconst 1, 1, 81, .int 1, 0, 0, 0),
  (81, .iload_n 2, 1, 82, .null, 0, 0, 0),
  (82, .iadd, 1, 83, .null, 0, 0, 0),
  (83, .ireturn, 1, 84, .null, 0, 0, 0),
  (84, .iinc 2 1, 3, 87, .int 1, 0, 0, 0),
  (87, .goto (-54), 3, 33, .null, 0, 0, 0),
  (90, .iconst 0, 1, 91, .int 0, 0, 0, 0),
  (91, .ireturn, 1, 92, .null, 0, 0, 0)]
set_option maxRecDepth 100000 in
theorem ek_K_judge : e_K_judge.all (eok 0 c_K_judge) = true := by decide +kernel
def F_K_judge_80 (x2 : Int32) (w : A_W) : Option (Int32 × A_W) :=
  some ((1 + x2), w)
def F_K_judge_33 : Nat → Nat → Int32 → Int32 → A_W → Option (Int32 × A_W)
  | 0, _, _, _, _ => none
  | n + 1, t, x1, x2, w =>
    (gr w t 0 5).bind fun a1 =>
    (ra w a1 x1).bind fun a2 =>
    (gi w a2 3 1).bind fun v3 =>
    if v3 ≤ x2 then
      some (0, w)
    else
      (gr w t 0 0).bind fun a5 =>
      (ob w a5 2).bind fun o7 =>
      (F_R_hasDeposit a5 x2 w).bind fun p6 =>
      if p6.1 = 0 then
        F_K_judge_80 x2 p6.2
      else
        (gr p6.2 t 0 0).bind fun a9 =>
        (gr p6.2 a9 2 10).bind fun a10 =>
        (rd p6.2 a10 x2).bind fun v11 =>
        (gr p6.2 t 0 5).bind fun a12 =>
        (ra p6.2 a12 x1).bind fun a13 =>
        (gr p6.2 a13 3 2).bind fun a14 =>
        (rd p6.2 a14 x2).bind fun v15 =>
        if v11 = v15 then
          F_K_judge_33 n t x1 (x2 + 1) p6.2
        else
          F_K_judge_80 x2 p6.2
def F_K_judge_0 (t : Nat) (x1 : Int32) (w : A_W) : Option (Int32 × A_W) :=
  (F_K_isSheet x1 w).bind fun p1 =>
  if p1.1 = 0 then
    (ob p1.2 t 0).bind fun o11 =>
    (F_K_finding t 0 p1.2).bind fun p10 =>
    some (p10.1, p10.2)
  else
    (gr p1.2 t 0 5).bind fun a3 =>
    (ra p1.2 a3 x1).bind fun a4 =>
    (ob p1.2 a4 3).bind fun o6 =>
    (F_S_isMissing a4 p1.2).bind fun p5 =>
    if p5.1 = 0 then
      F_K_judge_33 FU t x1 0 p5.2
    else
      (ob p5.2 t 0).bind fun o9 =>
      (F_K_finding t 5 p5.2).bind fun p8 =>
      some (p8.1, p8.2)
set_option maxHeartbeats 4000000 in
set_option maxRecDepth 100000 in
theorem s_K_judge_80 {G : Gx} {X : Cx} {res : Int32 × A_W} (K : Ok G X 0 c_K_judge 3 (some .int) rm_K_judge) (hQ : QQ G X (some (.int res.1)) res.2 0 0) (x2 : Int32) (w : A_W) (h : F_K_judge_80 x2 w = some res) : Sm G X w 0 0 [none, none, some (.int x2)] [] 80 := by
  unfold F_K_judge_80 at h
  refine Sm_run K ek_K_judge 44 3 rfl ?_
  obtain rfl := Option.some.inj h
  exact Sm_reti K hQ (eok_i (eo ek_K_judge (i := 47) rfl) rfl)
set_option maxHeartbeats 4000000 in
set_option maxRecDepth 100000 in
theorem s_K_judge_33 {G : Gx} {X : Cx} {res : Int32 × A_W} (K : Ok G X 0 c_K_judge 3 (some .int) rm_K_judge) (hQ : QQ G X (some (.int res.1)) res.2 0 0) : ∀ (n : Nat) (t : Nat) (x1 : Int32) (x2 : Int32) (w : A_W), F_K_judge_33 n t x1 x2 w = some res → Sm G X w 0 0 [some (.ref t), some (.int x1), some (.int x2)] [] 33 := by
  intro n
  induction n with
  | zero => intro t x1 x2 w h; cases h
  | succ n ih =>
    intro t x1 x2 w h
    rw [F_K_judge_33] at h
    refine Sm_run K ek_K_judge 19 2 rfl ?_
    obtain ⟨a1, e_a1, h⟩ := Option.bind_eq_some_iff.mp h
    refine Sm_gr K (eo ek_K_judge (i := 21) rfl) e_a1 ?_
    refine Sm_run K ek_K_judge 22 1 rfl ?_
    obtain ⟨a2, e_a2, h⟩ := Option.bind_eq_some_iff.mp h
    refine Sm_ra K (eok_i (eo ek_K_judge (i := 23) rfl) rfl) e_a2 ?_
    obtain ⟨v3, e_v3, h⟩ := Option.bind_eq_some_iff.mp h
    refine Sm_gi K (eo ek_K_judge (i := 24) rfl) e_v3 ?_
    refine Sm_ic_ge K (eo ek_K_judge (i := 25) rfl) (fun c4 => ?_) (fun c4 => ?_)
    · rw [if_pos c4] at h
      refine Sm_run K ek_K_judge 50 1 rfl ?_
      obtain rfl := Option.some.inj h
      exact Sm_reti K hQ (eok_i (eo ek_K_judge (i := 51) rfl) rfl)
    · rw [if_neg c4] at h
      refine Sm_run K ek_K_judge 26 1 rfl ?_
      obtain ⟨a5, e_a5, h⟩ := Option.bind_eq_some_iff.mp h
      refine Sm_gr K (eo ek_K_judge (i := 27) rfl) e_a5 ?_
      refine Sm_run K ek_K_judge 28 1 rfl ?_
      obtain ⟨o7, e_o7, h⟩ := Option.bind_eq_some_iff.mp h
      obtain ⟨p6, e_p6, h⟩ := Option.bind_eq_some_iff.mp h
      refine Sm_callV K (eok_i (eo ek_K_judge (i := 29) rfl) rfl) cy_R_hasDeposit im_R_hasDeposit se_R_hasDeposit (lgm 284 (by decide +kernel) rfl) ⟨Nat.le_of_ble_eq_true rfl, Nat.le_of_ble_eq_true rfl⟩ (as := [.int x2]) (b := a5) (st := []) (ob_e e_o7) (by decide) rfl rfl rfl rfl (Nat.le_of_ble_eq_true rfl) ⟨Nat.le_of_ble_eq_true rfl, Nat.le_of_ble_eq_true rfl⟩ (cn_R_hasDeposit e_p6) ?_
      refine Sm_eq (st1 := .int p6.1 :: []) (nc1 := 0) (ns1 := 0) rfl rfl rfl ?_
      refine Sm_if_eq K (eo ek_K_judge (i := 30) rfl) (fun c8 => ?_) (fun c8 => ?_)
      · rw [if_pos c8] at h
        exact Sm_le (leR_n (leR_n (leR_s leR_nil))) (s_K_judge_80 K hQ _ _ h)
      · rw [if_neg c8] at h
        refine Sm_run K ek_K_judge 31 1 rfl ?_
        obtain ⟨a9, e_a9, h⟩ := Option.bind_eq_some_iff.mp h
        refine Sm_gr K (eo ek_K_judge (i := 32) rfl) e_a9 ?_
        obtain ⟨a10, e_a10, h⟩ := Option.bind_eq_some_iff.mp h
        refine Sm_gr K (eo ek_K_judge (i := 33) rfl) e_a10 ?_
        refine Sm_run K ek_K_judge 34 1 rfl ?_
        obtain ⟨v11, e_v11, h⟩ := Option.bind_eq_some_iff.mp h
        refine Sm_rd K (eok_i (eo ek_K_judge (i := 35) rfl) rfl) e_v11 ?_
        refine Sm_run K ek_K_judge 36 1 rfl ?_
        obtain ⟨a12, e_a12, h⟩ := Option.bind_eq_some_iff.mp h
        refine Sm_gr K (eo ek_K_judge (i := 37) rfl) e_a12 ?_
        refine Sm_run K ek_K_judge 38 1 rfl ?_
        obtain ⟨a13, e_a13, h⟩ := Option.bind_eq_some_iff.mp h
        refine Sm_ra K (eok_i (eo ek_K_judge (i := 39) rfl) rfl) e_a13 ?_
        obtain ⟨a14, e_a14, h⟩ := Option.bind_eq_some_iff.mp h
        refine Sm_gr K (eo ek_K_judge (i := 40) rfl) e_a14 ?_
        refine Sm_run K ek_K_judge 41 1 rfl ?_
        obtain ⟨v15, e_v15, h⟩ := Option.bind_eq_some_iff.mp h
        refine Sm_rd K (eok_i (eo ek_K_judge (i := 42) rfl) rfl) e_v15 ?_
        refine Sm_ic_eq K (eo ek_K_judge (i := 43) rfl) (fun c16 => ?_) (fun c16 => ?_)
        · rw [if_pos c16] at h
          refine Sm_run K ek_K_judge 48 2 rfl ?_
          exact Sm_le (leR_s (leR_s (leR_s leR_nil))) (ih _ _ _ _ h)
        · rw [if_neg c16] at h
          exact Sm_le (leR_n (leR_n (leR_s leR_nil))) (s_K_judge_80 K hQ _ _ h)
set_option maxHeartbeats 4000000 in
set_option maxRecDepth 100000 in
theorem s_K_judge_0 {G : Gx} {X : Cx} {res : Int32 × A_W} (K : Ok G X 0 c_K_judge 3 (some .int) rm_K_judge) (hQ : QQ G X (some (.int res.1)) res.2 0 0) (t : Nat) (x1 : Int32) (w : A_W) (h : F_K_judge_0 t x1 w = some res) : Sm G X w 0 0 [some (.ref t), some (.int x1), none] [] 0 := by
  unfold F_K_judge_0 at h
  refine Sm_run K ek_K_judge 0 1 rfl ?_
  obtain ⟨p1, e_p1, h⟩ := Option.bind_eq_some_iff.mp h
  refine Sm_callS K (eok_i (eo ek_K_judge (i := 1) rfl) rfl) cy_K_isSheet st_K_isSheet (lgm 508 (by decide +kernel) rfl) ⟨Nat.le_of_ble_eq_true rfl, Nat.le_of_ble_eq_true rfl⟩ (as := [.int x1]) (st := []) rfl rfl rfl (Nat.le_of_ble_eq_true rfl) ⟨Nat.le_of_ble_eq_true rfl, Nat.le_of_ble_eq_true rfl⟩ (cn_K_isSheet e_p1) ?_
  refine Sm_eq (st1 := .int p1.1 :: []) (nc1 := 0) (ns1 := 0) rfl rfl rfl ?_
  refine Sm_if_ne K (eo ek_K_judge (i := 2) rfl) (fun c2 => ?_) (fun c2 => ?_)
  · rw [if_neg c2] at h
    refine Sm_run K ek_K_judge 7 1 rfl ?_
    obtain ⟨a3, e_a3, h⟩ := Option.bind_eq_some_iff.mp h
    refine Sm_gr K (eo ek_K_judge (i := 8) rfl) e_a3 ?_
    refine Sm_run K ek_K_judge 9 1 rfl ?_
    obtain ⟨a4, e_a4, h⟩ := Option.bind_eq_some_iff.mp h
    refine Sm_ra K (eok_i (eo ek_K_judge (i := 10) rfl) rfl) e_a4 ?_
    obtain ⟨o6, e_o6, h⟩ := Option.bind_eq_some_iff.mp h
    obtain ⟨p5, e_p5, h⟩ := Option.bind_eq_some_iff.mp h
    refine Sm_callV K (eok_i (eo ek_K_judge (i := 11) rfl) rfl) cy_S_isMissing im_S_isMissing se_S_isMissing (lgm 511 (by decide +kernel) rfl) ⟨Nat.le_of_ble_eq_true rfl, Nat.le_of_ble_eq_true rfl⟩ (as := []) (b := a4) (st := []) (ob_e e_o6) (by decide) rfl rfl rfl rfl (Nat.le_of_ble_eq_true rfl) ⟨Nat.le_of_ble_eq_true rfl, Nat.le_of_ble_eq_true rfl⟩ (cn_S_isMissing e_p5) ?_
    refine Sm_eq (st1 := .int p5.1 :: []) (nc1 := 0) (ns1 := 0) rfl rfl rfl ?_
    refine Sm_if_eq K (eo ek_K_judge (i := 12) rfl) (fun c7 => ?_) (fun c7 => ?_)
    · rw [if_pos c7] at h
      refine Sm_run K ek_K_judge 17 2 rfl ?_
      exact Sm_le (leR_s (leR_s (leR_s leR_nil))) (s_K_judge_33 K hQ FU _ _ _ _ h)
    · rw [if_neg c7] at h
      refine Sm_run K ek_K_judge 13 2 rfl ?_
      obtain ⟨o9, e_o9, h⟩ := Option.bind_eq_some_iff.mp h
      obtain ⟨p8, e_p8, h⟩ := Option.bind_eq_some_iff.mp h
      refine Sm_callV K (eok_i (eo ek_K_judge (i := 15) rfl) rfl) cy_K_finding im_K_finding se_K_finding (lgm 249 (by decide +kernel) rfl) ⟨Nat.le_of_ble_eq_true rfl, Nat.le_of_ble_eq_true rfl⟩ (as := [.int 5]) (b := t) (st := []) (ob_e e_o9) (by decide) rfl rfl rfl rfl (Nat.le_of_ble_eq_true rfl) ⟨Nat.le_of_ble_eq_true rfl, Nat.le_of_ble_eq_true rfl⟩ (cn_K_finding e_p8) ?_
      refine Sm_eq (st1 := .int p8.1 :: []) (nc1 := 0) (ns1 := 0) rfl rfl rfl ?_
      obtain rfl := Option.some.inj h
      exact Sm_reti K hQ (eok_i (eo ek_K_judge (i := 16) rfl) rfl)
  · rw [if_pos c2] at h
    refine Sm_run K ek_K_judge 3 2 rfl ?_
    obtain ⟨o11, e_o11, h⟩ := Option.bind_eq_some_iff.mp h
    obtain ⟨p10, e_p10, h⟩ := Option.bind_eq_some_iff.mp h
    refine Sm_callV K (eok_i (eo ek_K_judge (i := 5) rfl) rfl) cy_K_finding im_K_finding se_K_finding (lgm 249 (by decide +kernel) rfl) ⟨Nat.le_of_ble_eq_true rfl, Nat.le_of_ble_eq_true rfl⟩ (as := [.int 0]) (b := t) (st := []) (ob_e e_o11) (by decide) rfl rfl rfl rfl (Nat.le_of_ble_eq_true rfl) ⟨Nat.le_of_ble_eq_true rfl, Nat.le_of_ble_eq_true rfl⟩ (cn_K_finding e_p10) ?_
    refine Sm_eq (st1 := .int p10.1 :: []) (nc1 := 0) (ns1 := 0) rfl rfl rfl ?_
    obtain rfl := Option.some.inj h
    exact Sm_reti K hQ (eok_i (eo ek_K_judge (i := 6) rfl) rfl)
def F_K_judge (t : Nat) (x1 : Int32) (w : A_W) : Option (Int32 × A_W) := F_K_judge_0 t x1 w
theorem cn_K_judge {G : Gx} {t : Nat} {x1 : Int32} {w : A_W} {res : Int32 × A_W} (h : F_K_judge t x1 w = some res) : Cn G y_K_judge c_K_judge 3 (some .int) rm_K_judge [.ref t, .int x1] w (some (.int res.1)) res.2 :=
  Cn_of (own := 0) cy_K_judge rfl rfl (Nat.le_of_ble_eq_true rfl) rfl (fun X K _ hQ => Sm_le (leR_s (leR_s (leR_n leR_nil))) (s_K_judge_0 K hQ _ _ _ h))
/-! EveningCloak.image()I -/
abbrev c_K_image : ByteArray := prog_1_method_40_code
def y_K_image : MethodName := ⟨"EveningCloak", "image", "()I"⟩
def rm_K_image : Room := { frames := 2, cells := 0, slots := 0, locals := 75 }
theorem cy_K_image : Cy y_K_image c_K_image 1 (some .int) 0 := ⟨lgm 731 (by decide +kernel) rfl, lgm 68 (by decide +kernel) rfl, by decide +kernel, by decide +kernel⟩
theorem im_K_image : Cond.instanceMethod y_K_image ∈ lg := lgm 729 (by decide +kernel) rfl
theorem se_K_image : Cond.selects y_K_image.cls y_K_image y_K_image ∈ lg := lgm 730 (by decide +kernel) rfl
def e_K_image : List Ent := [
  (0, .aload_n 0, 1, 1, .null, 0, 0, 0),
  (1, .getfield 19, 3, 4, .null, 0, 2, 219),
  (4, .aload_n 0, 1, 5, .null, 0, 0, 0),
  (5, .getfield 12, 3, 8, .null, 0, 0, 217),
  (8, .invokevirtual 187, 3, 11, .null, 0, 0, 0),
  (11, .aload_n 0, 1, 12, .null, 0, 0, 0),
  (12, .iconst 1, 1, 13, .int 1, 0, 0, 0),
  (13, .putfield 247, 3, 16, .null, 0, 3, 220),
  (16, .iconst 1, 1, 17, .int 1, 0, 0, 0),
  (17, .ireturn, 1, 18, .null, 0, 0, 0)]
set_option maxRecDepth 100000 in
theorem ek_K_image : e_K_image.all (eok 0 c_K_image) = true := by decide +kernel
def F_K_image_0 (t : Nat) (w : A_W) : Option (Int32 × A_W) :=
  (gr w t 0 2).bind fun a1 =>
  (gr w t 0 0).bind fun a2 =>
  (ob w a1 2).bind fun o4 =>
  (F_R_become a1 a2 w).bind fun p3 =>
  (bz 1).bind fun b6 =>
  (pf p3 t 0 3 (.int b6)).bind fun w5 =>
  some (1, w5)
set_option maxHeartbeats 4000000 in
set_option maxRecDepth 100000 in
theorem s_K_image_0 {G : Gx} {X : Cx} {res : Int32 × A_W} (K : Ok G X 0 c_K_image 1 (some .int) rm_K_image) (hQ : QQ G X (some (.int res.1)) res.2 0 0) (t : Nat) (w : A_W) (h : F_K_image_0 t w = some res) : Sm G X w 0 0 [some (.ref t)] [] 0 := by
  unfold F_K_image_0 at h
  refine Sm_run K ek_K_image 0 1 rfl ?_
  obtain ⟨a1, e_a1, h⟩ := Option.bind_eq_some_iff.mp h
  refine Sm_gr K (eo ek_K_image (i := 1) rfl) e_a1 ?_
  refine Sm_run K ek_K_image 2 1 rfl ?_
  obtain ⟨a2, e_a2, h⟩ := Option.bind_eq_some_iff.mp h
  refine Sm_gr K (eo ek_K_image (i := 3) rfl) e_a2 ?_
  obtain ⟨o4, e_o4, h⟩ := Option.bind_eq_some_iff.mp h
  obtain ⟨p3, e_p3, h⟩ := Option.bind_eq_some_iff.mp h
  refine Sm_callV K (eok_i (eo ek_K_image (i := 4) rfl) rfl) cy_R_become im_R_become se_R_become (lgm 417 (by decide +kernel) rfl) ⟨Nat.le_of_ble_eq_true rfl, Nat.le_of_ble_eq_true rfl⟩ (as := [.ref a2]) (b := a1) (st := []) (ob_e e_o4) (by decide) rfl rfl rfl rfl (Nat.le_of_ble_eq_true rfl) ⟨Nat.le_of_ble_eq_true rfl, Nat.le_of_ble_eq_true rfl⟩ (cn_R_become e_p3) ?_
  refine Sm_eq (st1 := []) (nc1 := 0) (ns1 := 0) rfl rfl rfl ?_
  refine Sm_run K ek_K_image 5 2 rfl ?_
  obtain ⟨b6, e_b6, h⟩ := Option.bind_eq_some_iff.mp h
  obtain ⟨w5, e_w5, h⟩ := Option.bind_eq_some_iff.mp h
  refine Sm_pz K (eo ek_K_image (i := 7) rfl) rfl rfl e_b6 e_w5 ?_
  refine Sm_run K ek_K_image 8 1 rfl ?_
  obtain rfl := Option.some.inj h
  exact Sm_reti K hQ (eok_i (eo ek_K_image (i := 9) rfl) rfl)
def F_K_image (t : Nat) (w : A_W) : Option (Int32 × A_W) := F_K_image_0 t w
theorem cn_K_image {G : Gx} {t : Nat} {w : A_W} {res : Int32 × A_W} (h : F_K_image t w = some res) : Cn G y_K_image c_K_image 1 (some .int) rm_K_image [.ref t] w (some (.int res.1)) res.2 :=
  Cn_of (own := 0) cy_K_image rfl rfl (Nat.le_of_ble_eq_true rfl) rfl (fun X K _ hQ => Sm_le (leR_s leR_nil) (s_K_image_0 K hQ _ _ h))
/-! EveningCloak.undo()I -/
abbrev c_K_undo : ByteArray := prog_1_method_41_code
def y_K_undo : MethodName := ⟨"EveningCloak", "undo", "()I"⟩
def rm_K_undo : Room := { frames := 2, cells := 0, slots := 0, locals := 75 }
theorem cy_K_undo : Cy y_K_undo c_K_undo 1 (some .int) 0 := ⟨lgm 735 (by decide +kernel) rfl, lgm 68 (by decide +kernel) rfl, by decide +kernel, by decide +kernel⟩
theorem im_K_undo : Cond.instanceMethod y_K_undo ∈ lg := lgm 733 (by decide +kernel) rfl
theorem se_K_undo : Cond.selects y_K_undo.cls y_K_undo y_K_undo ∈ lg := lgm 734 (by decide +kernel) rfl
def e_K_undo : List Ent := [
  (0, .aload_n 0, 1, 1, .null, 0, 0, 0),
  (1, .getfield 247, 3, 4, .null, 0, 3, 220),
  (4, .ifCond .ne 9, 3, 13, .null, 0, 0, 0),
  (7, .aload_n 0, 1, 8, .null, 0, 0, 0),
  (8, .iconst 3, 1, 9, .int 3, 0, 0, 0),
  (9, .invokevirtual 48, 3, 12, .null, 0, 0, 0),
  (12, .ireturn, 1, 13, .null, 0, 0, 0),
  (13, .aload_n 0, 1, 14, .null, 0, 0, 0),
  (14, .getfield 12, 3, 17, .null, 0, 0, 217),
  (17, .aload_n 0, 1, 18, .null, 0, 0, 0),
  (18, .getfield 19, 3, 21, .null, 0, 2, 219),
  (21, .invokevirtual 187, 3, 24, .null, 0, 0, 0),
  (24, .aload_n 0, 1, 25, .null, 0, 0, 0),
  (25, .getfield 12, 3, 28, .null, 0, 0, 217),
  (28, .getfield 109, 3, 31, .null, 2, 0, 99),
  (31, .ireturn, 1, 32, .null, 0, 0, 0)]
set_option maxRecDepth 100000 in
theorem ek_K_undo : e_K_undo.all (eok 0 c_K_undo) = true := by decide +kernel
def F_K_undo_0 (t : Nat) (w : A_W) : Option (Int32 × A_W) :=
  (gi w t 0 3).bind fun v1 =>
  if v1 = 0 then
    (ob w t 0).bind fun o10 =>
    (F_K_finding t 3 w).bind fun p9 =>
    some (p9.1, p9.2)
  else
    (gr w t 0 0).bind fun a3 =>
    (gr w t 0 2).bind fun a4 =>
    (ob w a3 2).bind fun o6 =>
    (F_R_become a3 a4 w).bind fun p5 =>
    (gr p5 t 0 0).bind fun a7 =>
    (gi p5 a7 2 0).bind fun v8 =>
    some (v8, p5)
set_option maxHeartbeats 4000000 in
set_option maxRecDepth 100000 in
theorem s_K_undo_0 {G : Gx} {X : Cx} {res : Int32 × A_W} (K : Ok G X 0 c_K_undo 1 (some .int) rm_K_undo) (hQ : QQ G X (some (.int res.1)) res.2 0 0) (t : Nat) (w : A_W) (h : F_K_undo_0 t w = some res) : Sm G X w 0 0 [some (.ref t)] [] 0 := by
  unfold F_K_undo_0 at h
  refine Sm_run K ek_K_undo 0 1 rfl ?_
  obtain ⟨v1, e_v1, h⟩ := Option.bind_eq_some_iff.mp h
  refine Sm_gi K (eo ek_K_undo (i := 1) rfl) e_v1 ?_
  refine Sm_if_ne K (eo ek_K_undo (i := 2) rfl) (fun c2 => ?_) (fun c2 => ?_)
  · rw [if_neg c2] at h
    refine Sm_run K ek_K_undo 7 1 rfl ?_
    obtain ⟨a3, e_a3, h⟩ := Option.bind_eq_some_iff.mp h
    refine Sm_gr K (eo ek_K_undo (i := 8) rfl) e_a3 ?_
    refine Sm_run K ek_K_undo 9 1 rfl ?_
    obtain ⟨a4, e_a4, h⟩ := Option.bind_eq_some_iff.mp h
    refine Sm_gr K (eo ek_K_undo (i := 10) rfl) e_a4 ?_
    obtain ⟨o6, e_o6, h⟩ := Option.bind_eq_some_iff.mp h
    obtain ⟨p5, e_p5, h⟩ := Option.bind_eq_some_iff.mp h
    refine Sm_callV K (eok_i (eo ek_K_undo (i := 11) rfl) rfl) cy_R_become im_R_become se_R_become (lgm 417 (by decide +kernel) rfl) ⟨Nat.le_of_ble_eq_true rfl, Nat.le_of_ble_eq_true rfl⟩ (as := [.ref a4]) (b := a3) (st := []) (ob_e e_o6) (by decide) rfl rfl rfl rfl (Nat.le_of_ble_eq_true rfl) ⟨Nat.le_of_ble_eq_true rfl, Nat.le_of_ble_eq_true rfl⟩ (cn_R_become e_p5) ?_
    refine Sm_eq (st1 := []) (nc1 := 0) (ns1 := 0) rfl rfl rfl ?_
    refine Sm_run K ek_K_undo 12 1 rfl ?_
    obtain ⟨a7, e_a7, h⟩ := Option.bind_eq_some_iff.mp h
    refine Sm_gr K (eo ek_K_undo (i := 13) rfl) e_a7 ?_
    obtain ⟨v8, e_v8, h⟩ := Option.bind_eq_some_iff.mp h
    refine Sm_gi K (eo ek_K_undo (i := 14) rfl) e_v8 ?_
    obtain rfl := Option.some.inj h
    exact Sm_reti K hQ (eok_i (eo ek_K_undo (i := 15) rfl) rfl)
  · rw [if_pos c2] at h
    refine Sm_run K ek_K_undo 3 2 rfl ?_
    obtain ⟨o10, e_o10, h⟩ := Option.bind_eq_some_iff.mp h
    obtain ⟨p9, e_p9, h⟩ := Option.bind_eq_some_iff.mp h
    refine Sm_callV K (eok_i (eo ek_K_undo (i := 5) rfl) rfl) cy_K_finding im_K_finding se_K_finding (lgm 249 (by decide +kernel) rfl) ⟨Nat.le_of_ble_eq_true rfl, Nat.le_of_ble_eq_true rfl⟩ (as := [.int 3]) (b := t) (st := []) (ob_e e_o10) (by decide) rfl rfl rfl rfl (Nat.le_of_ble_eq_true rfl) ⟨Nat.le_of_ble_eq_true rfl, Nat.le_of_ble_eq_true rfl⟩ (cn_K_finding e_p9) ?_
    refine Sm_eq (st1 := .int p9.1 :: []) (nc1 := 0) (ns1 := 0) rfl rfl rfl ?_
    obtain rfl := Option.some.inj h
    exact Sm_reti K hQ (eok_i (eo ek_K_undo (i := 6) rfl) rfl)
def F_K_undo (t : Nat) (w : A_W) : Option (Int32 × A_W) := F_K_undo_0 t w
theorem cn_K_undo {G : Gx} {t : Nat} {w : A_W} {res : Int32 × A_W} (h : F_K_undo t w = some res) : Cn G y_K_undo c_K_undo 1 (some .int) rm_K_undo [.ref t] w (some (.int res.1)) res.2 :=
  Cn_of (own := 0) cy_K_undo rfl rfl (Nat.le_of_ble_eq_true rfl) rfl (fun X K _ hQ => Sm_le (leR_s leR_nil) (s_K_undo_0 K hQ _ _ h))
/-! EveningCloak.tear()I -/
abbrev c_K_tear : ByteArray := prog_1_method_42_code
def y_K_tear : MethodName := ⟨"EveningCloak", "tear", "()I"⟩
def rm_K_tear : Room := { frames := 0, cells := 0, slots := 0, locals := 0 }
theorem cy_K_tear : Cy y_K_tear c_K_tear 2 (some .int) 0 := ⟨lgm 739 (by decide +kernel) rfl, lgm 68 (by decide +kernel) rfl, by decide +kernel, by decide +kernel⟩
theorem im_K_tear : Cond.instanceMethod y_K_tear ∈ lg := lgm 737 (by decide +kernel) rfl
theorem se_K_tear : Cond.selects y_K_tear.cls y_K_tear y_K_tear ∈ lg := lgm 738 (by decide +kernel) rfl
def e_K_tear : List Ent := [
  (0, .aload_n 0, 1, 1, .null, 0, 0, 0),
  (1, .getfield 247, 3, 4, .null, 0, 3, 220),
  (4, .ifCond .eq 7, 3, 11, .null, 0, 0, 0),
  (7, .iconst 1, 1, 8, .int 1, 0, 0, 0),
  (8, .goto 4, 3, 12, .null, 0, 0, 0),
  (11, .iconst 0, 1, 12, .int 0, 0, 0, 0),
  (12, .istore_n 1, 1, 13, .null, 0, 0, 0),
  (13, .aload_n 0, 1, 14, .null, 0, 0, 0),
  (14, .iconst 0, 1, 15, .int 0, 0, 0, 0),
  (15, .putfield 247, 3, 18, .null, 0, 3, 220),
  (18, .iload_n 1, 1, 19, .null, 0, 0, 0),
  (19, .ireturn, 1, 20, .null, 0, 0, 0)]
set_option maxRecDepth 100000 in
theorem ek_K_tear : e_K_tear.all (eok 0 c_K_tear) = true := by decide +kernel
def F_K_tear_12 (t : Nat) (y0 : Int32) (w : A_W) : Option (Int32 × A_W) :=
  (bz 0).bind fun b2 =>
  (pf w t 0 3 (.int b2)).bind fun w1 =>
  some (y0, w1)
def F_K_tear_0 (t : Nat) (w : A_W) : Option (Int32 × A_W) :=
  (gi w t 0 3).bind fun v1 =>
  if v1 = 0 then
    F_K_tear_12 t 0 w
  else
    F_K_tear_12 t 1 w
set_option maxHeartbeats 4000000 in
set_option maxRecDepth 100000 in
theorem s_K_tear_12 {G : Gx} {X : Cx} {res : Int32 × A_W} (K : Ok G X 0 c_K_tear 2 (some .int) rm_K_tear) (hQ : QQ G X (some (.int res.1)) res.2 0 0) (t : Nat) (y0 : Int32) (w : A_W) (h : F_K_tear_12 t y0 w = some res) : Sm G X w 0 0 [some (.ref t), none] [.int y0] 12 := by
  unfold F_K_tear_12 at h
  refine Sm_run K ek_K_tear 6 3 rfl ?_
  obtain ⟨b2, e_b2, h⟩ := Option.bind_eq_some_iff.mp h
  obtain ⟨w1, e_w1, h⟩ := Option.bind_eq_some_iff.mp h
  refine Sm_pz K (eo ek_K_tear (i := 9) rfl) rfl rfl e_b2 e_w1 ?_
  refine Sm_run K ek_K_tear 10 1 rfl ?_
  obtain rfl := Option.some.inj h
  exact Sm_reti K hQ (eok_i (eo ek_K_tear (i := 11) rfl) rfl)
set_option maxHeartbeats 4000000 in
set_option maxRecDepth 100000 in
theorem s_K_tear_0 {G : Gx} {X : Cx} {res : Int32 × A_W} (K : Ok G X 0 c_K_tear 2 (some .int) rm_K_tear) (hQ : QQ G X (some (.int res.1)) res.2 0 0) (t : Nat) (w : A_W) (h : F_K_tear_0 t w = some res) : Sm G X w 0 0 [some (.ref t), none] [] 0 := by
  unfold F_K_tear_0 at h
  refine Sm_run K ek_K_tear 0 1 rfl ?_
  obtain ⟨v1, e_v1, h⟩ := Option.bind_eq_some_iff.mp h
  refine Sm_gi K (eo ek_K_tear (i := 1) rfl) e_v1 ?_
  refine Sm_if_eq K (eo ek_K_tear (i := 2) rfl) (fun c2 => ?_) (fun c2 => ?_)
  · rw [if_pos c2] at h
    refine Sm_run K ek_K_tear 5 1 rfl ?_
    exact Sm_le (leR_s (leR_n leR_nil)) (s_K_tear_12 K hQ _ _ _ h)
  · rw [if_neg c2] at h
    refine Sm_run K ek_K_tear 3 2 rfl ?_
    exact Sm_le (leR_s (leR_n leR_nil)) (s_K_tear_12 K hQ _ _ _ h)
def F_K_tear (t : Nat) (w : A_W) : Option (Int32 × A_W) := F_K_tear_0 t w
theorem cn_K_tear {G : Gx} {t : Nat} {w : A_W} {res : Int32 × A_W} (h : F_K_tear t w = some res) : Cn G y_K_tear c_K_tear 2 (some .int) rm_K_tear [.ref t] w (some (.int res.1)) res.2 :=
  Cn_of (own := 0) cy_K_tear rfl rfl (Nat.le_of_ble_eq_true rfl) rfl (fun X K _ hQ => Sm_le (leR_s (leR_n leR_nil)) (s_K_tear_0 K hQ _ _ h))
/-! EveningCloak$Room.heldSpots()I -/
abbrev c_R_heldSpots : ByteArray := prog_3_method_27_code
def y_R_heldSpots : MethodName := ⟨"EveningCloak$Room", "heldSpots", "()I"⟩
def rm_R_heldSpots : Room := { frames := 0, cells := 0, slots := 0, locals := 0 }
theorem cy_R_heldSpots : Cy y_R_heldSpots c_R_heldSpots 3 (some .int) 0 := ⟨lgm 747 (by decide +kernel) rfl, lgm 69 (by decide +kernel) rfl, by decide +kernel, by decide +kernel⟩
theorem im_R_heldSpots : Cond.instanceMethod y_R_heldSpots ∈ lg := lgm 745 (by decide +kernel) rfl
theorem se_R_heldSpots : Cond.selects y_R_heldSpots.cls y_R_heldSpots y_R_heldSpots ∈ lg := lgm 746 (by decide +kernel) rfl
def e_R_heldSpots : List Ent := [
  (0, .iconst 0, 1, 1, .int 0, 0, 0, 0),
  (1, .istore_n 1, 1, 2, .null, 0, 0, 0),
  (2, .iconst 0, 1, 3, .int 0, 0, 0, 0),
  (3, .istore_n 2, 1, 4, .null, 0, 0, 0),
  (4, .iload_n 2, 1, 5, .null, 0, 0, 0),
  (5, .bipush 10, 2, 7, .int 10, 0, 0, 0),
  (7, .if_icmp .ge 22, 3, 29, .null, 0, 0, 0),
  (10, .aload_n 0, 1, 11, .null, 0, 0, 0),
  (11, .getfield 46, 3, 14, .null, 2, 15, 135),
  (14, .iload_n 2, 1, 15, .null, 0, 0, 0),
  (15, .iaload, 1, 16, .null, 0, 0, 0),
  (16, .iconst (-1), 1, 17, .int (-1), 0, 0, 0),
  (17, .if_icmp .eq 6, 3, 23, .null, 0, 0, 0),
  (20, .iinc 1 1, 3, 23, .int 1, 0, 0, 0),
  (23, .iinc 2 1, 3, 26, .int 1, 0, 0, 0),
  (26, .goto (-22), 3, 4, .null, 0, 0, 0),
  (29, .iload_n 1, 1, 30, .null, 0, 0, 0),
  (30, .ireturn, 1, 31, .null, 0, 0, 0)]
set_option maxRecDepth 100000 in
theorem ek_R_heldSpots : e_R_heldSpots.all (eok 2 c_R_heldSpots) = true := by decide +kernel
def F_R_heldSpots_23 (k4 : Nat → Int32 → Int32 → A_W → Option (Int32 × A_W)) (t : Nat) (x1 : Int32) (x2 : Int32) (w : A_W) : Option (Int32 × A_W) :=
  k4 t x1 (x2 + 1) w
def F_R_heldSpots_4 : Nat → Nat → Int32 → Int32 → A_W → Option (Int32 × A_W)
  | 0, _, _, _, _ => none
  | n + 1, t, x1, x2, w =>
    if 10 ≤ x2 then
      some (x1, w)
    else
      (gr w t 2 15).bind fun a2 =>
      (rd w a2 x2).bind fun v3 =>
      if v3 = (-1) then
        F_R_heldSpots_23 (F_R_heldSpots_4 n) t x1 x2 w
      else
        F_R_heldSpots_23 (F_R_heldSpots_4 n) t (x1 + 1) x2 w
def F_R_heldSpots_0 (t : Nat) (w : A_W) : Option (Int32 × A_W) :=
  F_R_heldSpots_4 FU t 0 0 w
set_option maxHeartbeats 4000000 in
set_option maxRecDepth 100000 in
theorem s_R_heldSpots_23 {G : Gx} {X : Cx} {res : Int32 × A_W} (K : Ok G X 2 c_R_heldSpots 3 (some .int) rm_R_heldSpots) (hQ : QQ G X (some (.int res.1)) res.2 0 0) {k4 : Nat → Int32 → Int32 → A_W → Option (Int32 × A_W)} (hk4 : ∀ (t : Nat) (x1 : Int32) (x2 : Int32) (w : A_W), k4 t x1 x2 w = some res → Sm G X w 0 0 [some (.ref t), some (.int x1), some (.int x2)] [] 4) (t : Nat) (x1 : Int32) (x2 : Int32) (w : A_W) (h : F_R_heldSpots_23 k4 t x1 x2 w = some res) : Sm G X w 0 0 [some (.ref t), some (.int x1), some (.int x2)] [] 23 := by
  unfold F_R_heldSpots_23 at h
  refine Sm_run K ek_R_heldSpots 14 2 rfl ?_
  exact Sm_le (leR_s (leR_s (leR_s leR_nil))) (hk4 _ _ _ _ h)
set_option maxHeartbeats 4000000 in
set_option maxRecDepth 100000 in
theorem s_R_heldSpots_4 {G : Gx} {X : Cx} {res : Int32 × A_W} (K : Ok G X 2 c_R_heldSpots 3 (some .int) rm_R_heldSpots) (hQ : QQ G X (some (.int res.1)) res.2 0 0) : ∀ (n : Nat) (t : Nat) (x1 : Int32) (x2 : Int32) (w : A_W), F_R_heldSpots_4 n t x1 x2 w = some res → Sm G X w 0 0 [some (.ref t), some (.int x1), some (.int x2)] [] 4 := by
  intro n
  induction n with
  | zero => intro t x1 x2 w h; cases h
  | succ n ih =>
    intro t x1 x2 w h
    rw [F_R_heldSpots_4] at h
    refine Sm_run K ek_R_heldSpots 4 2 rfl ?_
    refine Sm_ic_ge K (eo ek_R_heldSpots (i := 6) rfl) (fun c1 => ?_) (fun c1 => ?_)
    · rw [if_pos c1] at h
      refine Sm_run K ek_R_heldSpots 16 1 rfl ?_
      obtain rfl := Option.some.inj h
      exact Sm_reti K hQ (eok_i (eo ek_R_heldSpots (i := 17) rfl) rfl)
    · rw [if_neg c1] at h
      refine Sm_run K ek_R_heldSpots 7 1 rfl ?_
      obtain ⟨a2, e_a2, h⟩ := Option.bind_eq_some_iff.mp h
      refine Sm_gr K (eo ek_R_heldSpots (i := 8) rfl) e_a2 ?_
      refine Sm_run K ek_R_heldSpots 9 1 rfl ?_
      obtain ⟨v3, e_v3, h⟩ := Option.bind_eq_some_iff.mp h
      refine Sm_rd K (eok_i (eo ek_R_heldSpots (i := 10) rfl) rfl) e_v3 ?_
      refine Sm_run K ek_R_heldSpots 11 1 rfl ?_
      refine Sm_ic_eq K (eo ek_R_heldSpots (i := 12) rfl) (fun c4 => ?_) (fun c4 => ?_)
      · rw [if_pos c4] at h
        exact Sm_le (leR_s (leR_s (leR_s leR_nil))) (s_R_heldSpots_23 K hQ ih _ _ _ _ h)
      · rw [if_neg c4] at h
        refine Sm_run K ek_R_heldSpots 13 1 rfl ?_
        exact Sm_le (leR_s (leR_s (leR_s leR_nil))) (s_R_heldSpots_23 K hQ ih _ _ _ _ h)
set_option maxHeartbeats 4000000 in
set_option maxRecDepth 100000 in
theorem s_R_heldSpots_0 {G : Gx} {X : Cx} {res : Int32 × A_W} (K : Ok G X 2 c_R_heldSpots 3 (some .int) rm_R_heldSpots) (hQ : QQ G X (some (.int res.1)) res.2 0 0) (t : Nat) (w : A_W) (h : F_R_heldSpots_0 t w = some res) : Sm G X w 0 0 [some (.ref t), none, none] [] 0 := by
  unfold F_R_heldSpots_0 at h
  refine Sm_run K ek_R_heldSpots 0 4 rfl ?_
  exact Sm_le (leR_s (leR_s (leR_s leR_nil))) (s_R_heldSpots_4 K hQ FU _ _ _ _ h)
def F_R_heldSpots (t : Nat) (w : A_W) : Option (Int32 × A_W) := F_R_heldSpots_0 t w
theorem cn_R_heldSpots {G : Gx} {t : Nat} {w : A_W} {res : Int32 × A_W} (h : F_R_heldSpots t w = some res) : Cn G y_R_heldSpots c_R_heldSpots 3 (some .int) rm_R_heldSpots [.ref t] w (some (.int res.1)) res.2 :=
  Cn_of (own := 2) cy_R_heldSpots rfl rfl (Nat.le_of_ble_eq_true rfl) rfl (fun X K _ hQ => Sm_le (leR_s (leR_n (leR_n leR_nil))) (s_R_heldSpots_0 K hQ _ _ h))
/-! EveningCloak.count(I)I -/
abbrev c_K_count : ByteArray := prog_1_method_43_code
def y_K_count : MethodName := ⟨"EveningCloak", "count", "(I)I"⟩
def rm_K_count : Room := { frames := 1, cells := 0, slots := 0, locals := 22 }
theorem cy_K_count : Cy y_K_count c_K_count 2 (some .int) 1 := ⟨lgm 743 (by decide +kernel) rfl, lgm 68 (by decide +kernel) rfl, by decide +kernel, by decide +kernel⟩
theorem im_K_count : Cond.instanceMethod y_K_count ∈ lg := lgm 741 (by decide +kernel) rfl
theorem se_K_count : Cond.selects y_K_count.cls y_K_count y_K_count ∈ lg := lgm 742 (by decide +kernel) rfl
def e_K_count : List Ent := [
  (0, .iload_n 1, 1, 1, .null, 0, 0, 0),
  (1, .tableswitch 111 0 7 #[47, 55, 63, 71, 79, 87, 95, 103], 47, 48, .null, 0, 0, 0),
  (48, .aload_n 0, 1, 49, .null, 0, 0, 0),
  (49, .getfield 12, 3, 52, .null, 0, 0, 217),
  (52, .getfield 109, 3, 55, .null, 2, 0, 99),
  (55, .ireturn, 1, 56, .null, 0, 0, 0),
  (56, .aload_n 0, 1, 57, .null, 0, 0, 0),
  (57, .getfield 12, 3, 60, .null, 0, 0, 217),
  (60, .getfield 62, 3, 63, .null, 2, 3, 105),
  (63, .ireturn, 1, 64, .null, 0, 0, 0),
  (64, .aload_n 0, 1, 65, .null, 0, 0, 0),
  (65, .getfield 12, 3, 68, .null, 0, 0, 217),
  (68, .getfield 69, 3, 71, .null, 2, 4, 108),
  (71, .ireturn, 1, 72, .null, 0, 0, 0),
  (72, .aload_n 0, 1, 73, .null, 0, 0, 0),
  (73, .getfield 12, 3, 76, .null, 0, 0, 217),
  (76, .getfield 117, 3, 79, .null, 2, 1, 101),
  (79, .ireturn, 1, 80, .null, 0, 0, 0),
  (80, .aload_n 0, 1, 81, .null, 0, 0, 0),
  (81, .getfield 12, 3, 84, .null, 0, 0, 217),
  (84, .invokevirtual 120, 3, 87, .null, 0, 0, 0),
  (87, .ireturn, 1, 88, .null, 0, 0, 0),
  (88, .aload_n 0, 1, 89, .null, 0, 0, 0),
  (89, .getfield 25, 3, 92, .null, 0, 4, 221),
  (92, .getfield 181, 3, 95, .null, 1, 1, 179),
  (95, .ireturn, 1, 96, .null, 0, 0, 0),
  (96, .aload_n 0, 1, 97, .null, 0, 0, 0),
  (97, .getfield 12, 3, 100, .null, 0, 0, 217),
  (100, .getfield 178, 3, 103, .null, 2, 2, 103),
  (103, .ireturn, 1, 104, .null, 0, 0, 0),
  (104, .aload_n 0, 1, 105, .null, 0, 0, 0),
  (105, .getfield 12, 3, 108, .null, 0, 0, 217),
  (108, .invokevirtual 251, 3, 111, .null, 0, 0, 0),
  (111, .ireturn, 1, 112, .null, 0, 0, 0),
  (112, .aload_n 0, 1, 113, .null, 0, 0, 0),
  (113, .iconst 0, 1, 114, .int 0, 0, 0, 0),
  (114, .invokevirtual 48, 3, 117, .null, 0, 0, 0),
  (117, .ireturn, 1, 118, .null, 0, 0, 0)]
set_option maxRecDepth 100000 in
theorem ek_K_count : e_K_count.all (eok 0 c_K_count) = true := by decide +kernel
def F_K_count_0 (t : Nat) (x1 : Int32) (w : A_W) : Option (Int32 × A_W) :=
  if x1 = 0 then
    (gr w t 0 0).bind fun a1 =>
    (gi w a1 2 0).bind fun v2 =>
    some (v2, w)
  else if x1 = 1 then
    (gr w t 0 0).bind fun a3 =>
    (gi w a3 2 3).bind fun v4 =>
    some (v4, w)
  else if x1 = 2 then
    (gr w t 0 0).bind fun a5 =>
    (gi w a5 2 4).bind fun v6 =>
    some (v6, w)
  else if x1 = 3 then
    (gr w t 0 0).bind fun a7 =>
    (gi w a7 2 1).bind fun v8 =>
    some (v8, w)
  else if x1 = 4 then
    (gr w t 0 0).bind fun a9 =>
    (ob w a9 2).bind fun o11 =>
    (F_R_metTogether a9 w).bind fun p10 =>
    some (p10.1, p10.2)
  else if x1 = 5 then
    (gr w t 0 4).bind fun a12 =>
    (gi w a12 1 1).bind fun v13 =>
    some (v13, w)
  else if x1 = 6 then
    (gr w t 0 0).bind fun a14 =>
    (gi w a14 2 2).bind fun v15 =>
    some (v15, w)
  else if x1 = 7 then
    (gr w t 0 0).bind fun a16 =>
    (ob w a16 2).bind fun o18 =>
    (F_R_heldSpots a16 w).bind fun p17 =>
    some (p17.1, p17.2)
  else
    (ob w t 0).bind fun o20 =>
    (F_K_finding t 0 w).bind fun p19 =>
    some (p19.1, p19.2)
set_option maxHeartbeats 4000000 in
set_option maxRecDepth 100000 in
theorem s_K_count_0 {G : Gx} {X : Cx} {res : Int32 × A_W} (K : Ok G X 0 c_K_count 2 (some .int) rm_K_count) (hQ : QQ G X (some (.int res.1)) res.2 0 0) (t : Nat) (x1 : Int32) (w : A_W) (h : F_K_count_0 t x1 w = some res) : Sm G X w 0 0 [some (.ref t), some (.int x1)] [] 0 := by
  unfold F_K_count_0 at h
  refine Sm_run K ek_K_count 0 1 rfl ?_
  refine Sm_tsw K (eok_d (eo ek_K_count (i := 1) rfl)) [48, 56, 64, 72, 80, 88, 96, 104] 112 (by decide) (by decide) (by decide) (fun j hj hx => ?_) (fun hx => ?_)
  · have hj : j < 8 := hj
    rcases (show j = 0 ∨ j = 1 ∨ j = 2 ∨ j = 3 ∨ j = 4 ∨ j = 5 ∨ j = 6 ∨ j = 7 by omega) with rfl | rfl | rfl | rfl | rfl | rfl | rfl | rfl
    · have hc : x1 = 0 := Int32.toInt_inj.mp (hx.trans (by decide))
      rw [if_pos hc] at h
      refine Sm_pc (pc1 := 48) rfl ?_
      refine Sm_run K ek_K_count 2 1 rfl ?_
      obtain ⟨a1, e_a1, h⟩ := Option.bind_eq_some_iff.mp h
      refine Sm_gr K (eo ek_K_count (i := 3) rfl) e_a1 ?_
      obtain ⟨v2, e_v2, h⟩ := Option.bind_eq_some_iff.mp h
      refine Sm_gi K (eo ek_K_count (i := 4) rfl) e_v2 ?_
      obtain rfl := Option.some.inj h
      exact Sm_reti K hQ (eok_i (eo ek_K_count (i := 5) rfl) rfl)
    · have hc : x1 = 1 := Int32.toInt_inj.mp (hx.trans (by decide))
      rw [if_neg (by rw [hc]; decide), if_pos hc] at h
      refine Sm_pc (pc1 := 56) rfl ?_
      refine Sm_run K ek_K_count 6 1 rfl ?_
      obtain ⟨a3, e_a3, h⟩ := Option.bind_eq_some_iff.mp h
      refine Sm_gr K (eo ek_K_count (i := 7) rfl) e_a3 ?_
      obtain ⟨v4, e_v4, h⟩ := Option.bind_eq_some_iff.mp h
      refine Sm_gi K (eo ek_K_count (i := 8) rfl) e_v4 ?_
      obtain rfl := Option.some.inj h
      exact Sm_reti K hQ (eok_i (eo ek_K_count (i := 9) rfl) rfl)
    · have hc : x1 = 2 := Int32.toInt_inj.mp (hx.trans (by decide))
      rw [if_neg (by rw [hc]; decide), if_neg (by rw [hc]; decide), if_pos hc] at h
      refine Sm_pc (pc1 := 64) rfl ?_
      refine Sm_run K ek_K_count 10 1 rfl ?_
      obtain ⟨a5, e_a5, h⟩ := Option.bind_eq_some_iff.mp h
      refine Sm_gr K (eo ek_K_count (i := 11) rfl) e_a5 ?_
      obtain ⟨v6, e_v6, h⟩ := Option.bind_eq_some_iff.mp h
      refine Sm_gi K (eo ek_K_count (i := 12) rfl) e_v6 ?_
      obtain rfl := Option.some.inj h
      exact Sm_reti K hQ (eok_i (eo ek_K_count (i := 13) rfl) rfl)
    · have hc : x1 = 3 := Int32.toInt_inj.mp (hx.trans (by decide))
      rw [if_neg (by rw [hc]; decide), if_neg (by rw [hc]; decide), if_neg (by rw [hc]; decide), if_pos hc] at h
      refine Sm_pc (pc1 := 72) rfl ?_
      refine Sm_run K ek_K_count 14 1 rfl ?_
      obtain ⟨a7, e_a7, h⟩ := Option.bind_eq_some_iff.mp h
      refine Sm_gr K (eo ek_K_count (i := 15) rfl) e_a7 ?_
      obtain ⟨v8, e_v8, h⟩ := Option.bind_eq_some_iff.mp h
      refine Sm_gi K (eo ek_K_count (i := 16) rfl) e_v8 ?_
      obtain rfl := Option.some.inj h
      exact Sm_reti K hQ (eok_i (eo ek_K_count (i := 17) rfl) rfl)
    · have hc : x1 = 4 := Int32.toInt_inj.mp (hx.trans (by decide))
      rw [if_neg (by rw [hc]; decide), if_neg (by rw [hc]; decide), if_neg (by rw [hc]; decide), if_neg (by rw [hc]; decide), if_pos hc] at h
      refine Sm_pc (pc1 := 80) rfl ?_
      refine Sm_run K ek_K_count 18 1 rfl ?_
      obtain ⟨a9, e_a9, h⟩ := Option.bind_eq_some_iff.mp h
      refine Sm_gr K (eo ek_K_count (i := 19) rfl) e_a9 ?_
      obtain ⟨o11, e_o11, h⟩ := Option.bind_eq_some_iff.mp h
      obtain ⟨p10, e_p10, h⟩ := Option.bind_eq_some_iff.mp h
      refine Sm_callV K (eok_i (eo ek_K_count (i := 20) rfl) rfl) cy_R_metTogether im_R_metTogether se_R_metTogether (lgm 388 (by decide +kernel) rfl) ⟨Nat.le_of_ble_eq_true rfl, Nat.le_of_ble_eq_true rfl⟩ (as := []) (b := a9) (st := []) (ob_e e_o11) (by decide) rfl rfl rfl rfl (Nat.le_of_ble_eq_true rfl) ⟨Nat.le_of_ble_eq_true rfl, Nat.le_of_ble_eq_true rfl⟩ (cn_R_metTogether e_p10) ?_
      refine Sm_eq (st1 := .int p10.1 :: []) (nc1 := 0) (ns1 := 0) rfl rfl rfl ?_
      obtain rfl := Option.some.inj h
      exact Sm_reti K hQ (eok_i (eo ek_K_count (i := 21) rfl) rfl)
    · have hc : x1 = 5 := Int32.toInt_inj.mp (hx.trans (by decide))
      rw [if_neg (by rw [hc]; decide), if_neg (by rw [hc]; decide), if_neg (by rw [hc]; decide), if_neg (by rw [hc]; decide), if_neg (by rw [hc]; decide), if_pos hc] at h
      refine Sm_pc (pc1 := 88) rfl ?_
      refine Sm_run K ek_K_count 22 1 rfl ?_
      obtain ⟨a12, e_a12, h⟩ := Option.bind_eq_some_iff.mp h
      refine Sm_gr K (eo ek_K_count (i := 23) rfl) e_a12 ?_
      obtain ⟨v13, e_v13, h⟩ := Option.bind_eq_some_iff.mp h
      refine Sm_gi K (eo ek_K_count (i := 24) rfl) e_v13 ?_
      obtain rfl := Option.some.inj h
      exact Sm_reti K hQ (eok_i (eo ek_K_count (i := 25) rfl) rfl)
    · have hc : x1 = 6 := Int32.toInt_inj.mp (hx.trans (by decide))
      rw [if_neg (by rw [hc]; decide), if_neg (by rw [hc]; decide), if_neg (by rw [hc]; decide), if_neg (by rw [hc]; decide), if_neg (by rw [hc]; decide), if_neg (by rw [hc]; decide), if_pos hc] at h
      refine Sm_pc (pc1 := 96) rfl ?_
      refine Sm_run K ek_K_count 26 1 rfl ?_
      obtain ⟨a14, e_a14, h⟩ := Option.bind_eq_some_iff.mp h
      refine Sm_gr K (eo ek_K_count (i := 27) rfl) e_a14 ?_
      obtain ⟨v15, e_v15, h⟩ := Option.bind_eq_some_iff.mp h
      refine Sm_gi K (eo ek_K_count (i := 28) rfl) e_v15 ?_
      obtain rfl := Option.some.inj h
      exact Sm_reti K hQ (eok_i (eo ek_K_count (i := 29) rfl) rfl)
    · have hc : x1 = 7 := Int32.toInt_inj.mp (hx.trans (by decide))
      rw [if_neg (by rw [hc]; decide), if_neg (by rw [hc]; decide), if_neg (by rw [hc]; decide), if_neg (by rw [hc]; decide), if_neg (by rw [hc]; decide), if_neg (by rw [hc]; decide), if_neg (by rw [hc]; decide), if_pos hc] at h
      refine Sm_pc (pc1 := 104) rfl ?_
      refine Sm_run K ek_K_count 30 1 rfl ?_
      obtain ⟨a16, e_a16, h⟩ := Option.bind_eq_some_iff.mp h
      refine Sm_gr K (eo ek_K_count (i := 31) rfl) e_a16 ?_
      obtain ⟨o18, e_o18, h⟩ := Option.bind_eq_some_iff.mp h
      obtain ⟨p17, e_p17, h⟩ := Option.bind_eq_some_iff.mp h
      refine Sm_callV K (eok_i (eo ek_K_count (i := 32) rfl) rfl) cy_R_heldSpots im_R_heldSpots se_R_heldSpots (lgm 744 (by decide +kernel) rfl) ⟨Nat.le_of_ble_eq_true rfl, Nat.le_of_ble_eq_true rfl⟩ (as := []) (b := a16) (st := []) (ob_e e_o18) (by decide) rfl rfl rfl rfl (Nat.le_of_ble_eq_true rfl) ⟨Nat.le_of_ble_eq_true rfl, Nat.le_of_ble_eq_true rfl⟩ (cn_R_heldSpots e_p17) ?_
      refine Sm_eq (st1 := .int p17.1 :: []) (nc1 := 0) (ns1 := 0) rfl rfl rfl ?_
      obtain rfl := Option.some.inj h
      exact Sm_reti K hQ (eok_i (eo ek_K_count (i := 33) rfl) rfl)
  · rw [if_neg (fun hc => hx 0 (by decide) (by rw [hc]; decide)), if_neg (fun hc => hx 1 (by decide) (by rw [hc]; decide)), if_neg (fun hc => hx 2 (by decide) (by rw [hc]; decide)), if_neg (fun hc => hx 3 (by decide) (by rw [hc]; decide)), if_neg (fun hc => hx 4 (by decide) (by rw [hc]; decide)), if_neg (fun hc => hx 5 (by decide) (by rw [hc]; decide)), if_neg (fun hc => hx 6 (by decide) (by rw [hc]; decide)), if_neg (fun hc => hx 7 (by decide) (by rw [hc]; decide))] at h
    refine Sm_run K ek_K_count 34 2 rfl ?_
    obtain ⟨o20, e_o20, h⟩ := Option.bind_eq_some_iff.mp h
    obtain ⟨p19, e_p19, h⟩ := Option.bind_eq_some_iff.mp h
    refine Sm_callV K (eok_i (eo ek_K_count (i := 36) rfl) rfl) cy_K_finding im_K_finding se_K_finding (lgm 249 (by decide +kernel) rfl) ⟨Nat.le_of_ble_eq_true rfl, Nat.le_of_ble_eq_true rfl⟩ (as := [.int 0]) (b := t) (st := []) (ob_e e_o20) (by decide) rfl rfl rfl rfl (Nat.le_of_ble_eq_true rfl) ⟨Nat.le_of_ble_eq_true rfl, Nat.le_of_ble_eq_true rfl⟩ (cn_K_finding e_p19) ?_
    refine Sm_eq (st1 := .int p19.1 :: []) (nc1 := 0) (ns1 := 0) rfl rfl rfl ?_
    obtain rfl := Option.some.inj h
    exact Sm_reti K hQ (eok_i (eo ek_K_count (i := 37) rfl) rfl)
def F_K_count (t : Nat) (x1 : Int32) (w : A_W) : Option (Int32 × A_W) := F_K_count_0 t x1 w
theorem cn_K_count {G : Gx} {t : Nat} {x1 : Int32} {w : A_W} {res : Int32 × A_W} (h : F_K_count t x1 w = some res) : Cn G y_K_count c_K_count 2 (some .int) rm_K_count [.ref t, .int x1] w (some (.int res.1)) res.2 :=
  Cn_of (own := 0) cy_K_count rfl rfl (Nat.le_of_ble_eq_true rfl) rfl (fun X K _ hQ => Sm_le (leR_s (leR_s leR_nil)) (s_K_count_0 K hQ _ _ _ h))
/-! EveningCloak.foundTogether()I -/
abbrev c_K_foundTogether : ByteArray := prog_1_method_46_code
def y_K_foundTogether : MethodName := ⟨"EveningCloak", "foundTogether", "()I"⟩
def rm_K_foundTogether : Room := { frames := 0, cells := 0, slots := 0, locals := 0 }
theorem cy_K_foundTogether : Cy y_K_foundTogether c_K_foundTogether 6 (some .int) 0 := ⟨lgm 755 (by decide +kernel) rfl, lgm 68 (by decide +kernel) rfl, by decide +kernel, by decide +kernel⟩
theorem im_K_foundTogether : Cond.instanceMethod y_K_foundTogether ∈ lg := lgm 754 (by decide +kernel) rfl
theorem se_K_foundTogether : Cond.selects y_K_foundTogether.cls y_K_foundTogether y_K_foundTogether ∈ lg := lgm 17 (by decide +kernel) rfl
def e_K_foundTogether : List Ent := [
  (0, .iconst 0, 1, 1, .int 0, 0, 0, 0),
  (1, .istore_n 1, 1, 2, .null, 0, 0, 0),
  (2, .aload_n 0, 1, 3, .null, 0, 0, 0),
  (3, .getfield 35, 3, 6, .null, 0, 6, 223),
  (6, .astore_n 2, 1, 7, .null, 0, 0, 0),
  (7, .aload_n 2, 1, 8, .null, 0, 0, 0),
  (8, .arraylength, 1, 9, .null, 0, 0, 0),
  (9, .istore_n 3, 1, 10, .null, 0, 0, 0),
  (10, .iconst 0, 1, 11, .int 0, 0, 0, 0),
  (11, .istore 4, 2, 13, .null, 0, 0, 0),
  (13, .iload 4, 2, 15, .null, 0, 0, 0),
  (15, .iload_n 3, 1, 16, .null, 0, 0, 0),
  (16, .if_icmp .ge 20, 3, 36, .null, 0, 0, 0),
  (19, .aload_n 2, 1, 20, .null, 0, 0, 0),
  (20, .iload 4, 2, 22, .null, 0, 0, 0),
  (22, .iaload, 1, 23, .null, 0, 0, 0),
  (23, .istore 5, 2, 25, .null, 0, 0, 0),
  (25, .iload_n 1, 1, 26, .null, 0, 0, 0),
  (26, .iload 5, 2, 28, .null, 0, 0, 0),
  (28, .iadd, 1, 29, .null, 0, 0, 0),
  (29, .istore_n 1, 1, 30, .null, 0, 0, 0),
  (30, .iinc 4 1, 3, 33, .int 1, 0, 0, 0),
  (33, .goto (-20), 3, 13, .null, 0, 0, 0),
  (36, .iload_n 1, 1, 37, .null, 0, 0, 0),
  (37, .ireturn, 1, 38, .null, 0, 0, 0)]
set_option maxRecDepth 100000 in
theorem ek_K_foundTogether : e_K_foundTogether.all (eok 0 c_K_foundTogether) = true := by decide +kernel
def F_K_foundTogether_13 : Nat → Int32 → Nat → Int32 → Int32 → A_W → Option (Int32 × A_W)
  | 0, _, _, _, _, _ => none
  | n + 1, x1, x2, x3, x4, w =>
    if x3 ≤ x4 then
      some (x1, w)
    else
      (rd w x2 x4).bind fun v2 =>
      F_K_foundTogether_13 n (x1 + v2) x2 x3 (x4 + 1) w
def F_K_foundTogether_0 (t : Nat) (w : A_W) : Option (Int32 × A_W) :=
  (gr w t 0 6).bind fun a1 =>
  (al w a1).bind fun v2 =>
  F_K_foundTogether_13 FU 0 a1 v2 0 w
set_option maxHeartbeats 4000000 in
set_option maxRecDepth 100000 in
theorem s_K_foundTogether_13 {G : Gx} {X : Cx} {res : Int32 × A_W} (K : Ok G X 0 c_K_foundTogether 6 (some .int) rm_K_foundTogether) (hQ : QQ G X (some (.int res.1)) res.2 0 0) : ∀ (n : Nat) (x1 : Int32) (x2 : Nat) (x3 : Int32) (x4 : Int32) (w : A_W), F_K_foundTogether_13 n x1 x2 x3 x4 w = some res → Sm G X w 0 0 [none, some (.int x1), some (.ref x2), some (.int x3), some (.int x4), none] [] 13 := by
  intro n
  induction n with
  | zero => intro x1 x2 x3 x4 w h; cases h
  | succ n ih =>
    intro x1 x2 x3 x4 w h
    rw [F_K_foundTogether_13] at h
    refine Sm_run K ek_K_foundTogether 10 2 rfl ?_
    refine Sm_ic_ge K (eo ek_K_foundTogether (i := 12) rfl) (fun c1 => ?_) (fun c1 => ?_)
    · rw [if_pos c1] at h
      refine Sm_run K ek_K_foundTogether 23 1 rfl ?_
      obtain rfl := Option.some.inj h
      exact Sm_reti K hQ (eok_i (eo ek_K_foundTogether (i := 24) rfl) rfl)
    · rw [if_neg c1] at h
      refine Sm_run K ek_K_foundTogether 13 2 rfl ?_
      obtain ⟨v2, e_v2, h⟩ := Option.bind_eq_some_iff.mp h
      refine Sm_rd K (eok_i (eo ek_K_foundTogether (i := 15) rfl) rfl) e_v2 ?_
      refine Sm_run K ek_K_foundTogether 16 7 rfl ?_
      exact Sm_le (leR_n (leR_s (leR_s (leR_s (leR_s (leR_n leR_nil)))))) (ih _ _ _ _ _ h)
set_option maxHeartbeats 4000000 in
set_option maxRecDepth 100000 in
theorem s_K_foundTogether_0 {G : Gx} {X : Cx} {res : Int32 × A_W} (K : Ok G X 0 c_K_foundTogether 6 (some .int) rm_K_foundTogether) (hQ : QQ G X (some (.int res.1)) res.2 0 0) (t : Nat) (w : A_W) (h : F_K_foundTogether_0 t w = some res) : Sm G X w 0 0 [some (.ref t), none, none, none, none, none] [] 0 := by
  unfold F_K_foundTogether_0 at h
  refine Sm_run K ek_K_foundTogether 0 3 rfl ?_
  obtain ⟨a1, e_a1, h⟩ := Option.bind_eq_some_iff.mp h
  refine Sm_gr K (eo ek_K_foundTogether (i := 3) rfl) e_a1 ?_
  refine Sm_run K ek_K_foundTogether 4 2 rfl ?_
  obtain ⟨v2, e_v2, h⟩ := Option.bind_eq_some_iff.mp h
  refine Sm_al K (eok_i (eo ek_K_foundTogether (i := 6) rfl) rfl) e_v2 ?_
  refine Sm_run K ek_K_foundTogether 7 3 rfl ?_
  exact Sm_le (leR_n (leR_s (leR_s (leR_s (leR_s (leR_n leR_nil)))))) (s_K_foundTogether_13 K hQ FU _ _ _ _ _ h)
def F_K_foundTogether (t : Nat) (w : A_W) : Option (Int32 × A_W) := F_K_foundTogether_0 t w
theorem cn_K_foundTogether {G : Gx} {t : Nat} {w : A_W} {res : Int32 × A_W} (h : F_K_foundTogether t w = some res) : Cn G y_K_foundTogether c_K_foundTogether 6 (some .int) rm_K_foundTogether [.ref t] w (some (.int res.1)) res.2 :=
  Cn_of (own := 0) cy_K_foundTogether rfl rfl (Nat.le_of_ble_eq_true rfl) rfl (fun X K _ hQ => Sm_le (leR_s (leR_n (leR_n (leR_n (leR_n (leR_n leR_nil)))))) (s_K_foundTogether_0 K hQ _ _ h))
/-! EveningCloak.status(I)I -/
abbrev c_K_status : ByteArray := prog_1_method_44_code
def y_K_status : MethodName := ⟨"EveningCloak", "status", "(I)I"⟩
def rm_K_status : Room := { frames := 1, cells := 0, slots := 0, locals := 25 }
theorem cy_K_status : Cy y_K_status c_K_status 2 (some .int) 1 := ⟨lgm 751 (by decide +kernel) rfl, lgm 68 (by decide +kernel) rfl, by decide +kernel, by decide +kernel⟩
theorem im_K_status : Cond.instanceMethod y_K_status ∈ lg := lgm 749 (by decide +kernel) rfl
theorem se_K_status : Cond.selects y_K_status.cls y_K_status y_K_status ∈ lg := lgm 750 (by decide +kernel) rfl
def e_K_status : List Ent := [
  (0, .iload_n 1, 1, 1, .null, 0, 0, 0),
  (1, .iconst (-1), 1, 2, .int (-1), 0, 0, 0),
  (2, .if_icmp .ne 8, 3, 10, .null, 0, 0, 0),
  (5, .aload_n 0, 1, 6, .null, 0, 0, 0),
  (6, .invokevirtual 254, 3, 9, .null, 0, 0, 0),
  (9, .ireturn, 1, 10, .null, 0, 0, 0),
  (10, .iload_n 1, 1, 11, .null, 0, 0, 0),
  (11, .iconst 0, 1, 12, .int 0, 0, 0, 0),
  (12, .bipush 6, 2, 14, .int 6, 0, 0, 0),
  (14, .invokestatic 40, 3, 17, .null, 0, 0, 0),
  (17, .ifCond .eq 12, 3, 29, .null, 0, 0, 0),
  (20, .aload_n 0, 1, 21, .null, 0, 0, 0),
  (21, .getfield 35, 3, 24, .null, 0, 6, 223),
  (24, .iload_n 1, 1, 25, .null, 0, 0, 0),
  (25, .iaload, 1, 26, .null, 0, 0, 0),
  (26, .goto 8, 3, 34, .null, 0, 0, 0),
  (29, .aload_n 0, 1, 30, .null, 0, 0, 0),
  (30, .iconst 0, 1, 31, .int 0, 0, 0, 0),
  (31, .invokevirtual 48, 3, 34, .null, 0, 0, 0),
  (34, .ireturn, 1, 35, .null, 0, 0, 0)]
set_option maxRecDepth 100000 in
theorem ek_K_status : e_K_status.all (eok 0 c_K_status) = true := by decide +kernel
def F_K_status_34 (y0 : Int32) (w : A_W) : Option (Int32 × A_W) :=
  some (y0, w)
def F_K_status_0 (t : Nat) (x1 : Int32) (w : A_W) : Option (Int32 × A_W) :=
  if x1 = (-1) then
    (ob w t 0).bind fun o9 =>
    (F_K_foundTogether t w).bind fun p8 =>
    some (p8.1, p8.2)
  else
    (F_K_within x1 0 6 w).bind fun p2 =>
    if p2.1 = 0 then
      (ob p2.2 t 0).bind fun o5 =>
      (F_K_finding t 0 p2.2).bind fun p4 =>
      F_K_status_34 p4.1 p4.2
    else
      (gr p2.2 t 0 6).bind fun a6 =>
      (rd p2.2 a6 x1).bind fun v7 =>
      F_K_status_34 v7 p2.2
set_option maxHeartbeats 4000000 in
set_option maxRecDepth 100000 in
theorem s_K_status_34 {G : Gx} {X : Cx} {res : Int32 × A_W} (K : Ok G X 0 c_K_status 2 (some .int) rm_K_status) (hQ : QQ G X (some (.int res.1)) res.2 0 0) (y0 : Int32) (w : A_W) (h : F_K_status_34 y0 w = some res) : Sm G X w 0 0 [none, none] [.int y0] 34 := by
  unfold F_K_status_34 at h
  obtain rfl := Option.some.inj h
  exact Sm_reti K hQ (eok_i (eo ek_K_status (i := 19) rfl) rfl)
set_option maxHeartbeats 4000000 in
set_option maxRecDepth 100000 in
theorem s_K_status_0 {G : Gx} {X : Cx} {res : Int32 × A_W} (K : Ok G X 0 c_K_status 2 (some .int) rm_K_status) (hQ : QQ G X (some (.int res.1)) res.2 0 0) (t : Nat) (x1 : Int32) (w : A_W) (h : F_K_status_0 t x1 w = some res) : Sm G X w 0 0 [some (.ref t), some (.int x1)] [] 0 := by
  unfold F_K_status_0 at h
  refine Sm_run K ek_K_status 0 2 rfl ?_
  refine Sm_ic_ne K (eo ek_K_status (i := 2) rfl) (fun c1 => ?_) (fun c1 => ?_)
  · rw [if_neg c1] at h
    refine Sm_run K ek_K_status 6 3 rfl ?_
    obtain ⟨p2, e_p2, h⟩ := Option.bind_eq_some_iff.mp h
    refine Sm_callS K (eok_i (eo ek_K_status (i := 9) rfl) rfl) cy_K_within st_K_within (lgm 243 (by decide +kernel) rfl) ⟨Nat.le_of_ble_eq_true rfl, Nat.le_of_ble_eq_true rfl⟩ (as := [.int x1, .int 0, .int 6]) (st := []) rfl rfl rfl (Nat.le_of_ble_eq_true rfl) ⟨Nat.le_of_ble_eq_true rfl, Nat.le_of_ble_eq_true rfl⟩ (cn_K_within e_p2) ?_
    refine Sm_eq (st1 := .int p2.1 :: []) (nc1 := 0) (ns1 := 0) rfl rfl rfl ?_
    refine Sm_if_eq K (eo ek_K_status (i := 10) rfl) (fun c3 => ?_) (fun c3 => ?_)
    · rw [if_pos c3] at h
      refine Sm_run K ek_K_status 16 2 rfl ?_
      obtain ⟨o5, e_o5, h⟩ := Option.bind_eq_some_iff.mp h
      obtain ⟨p4, e_p4, h⟩ := Option.bind_eq_some_iff.mp h
      refine Sm_callV K (eok_i (eo ek_K_status (i := 18) rfl) rfl) cy_K_finding im_K_finding se_K_finding (lgm 249 (by decide +kernel) rfl) ⟨Nat.le_of_ble_eq_true rfl, Nat.le_of_ble_eq_true rfl⟩ (as := [.int 0]) (b := t) (st := []) (ob_e e_o5) (by decide) rfl rfl rfl rfl (Nat.le_of_ble_eq_true rfl) ⟨Nat.le_of_ble_eq_true rfl, Nat.le_of_ble_eq_true rfl⟩ (cn_K_finding e_p4) ?_
      refine Sm_eq (st1 := .int p4.1 :: []) (nc1 := 0) (ns1 := 0) rfl rfl rfl ?_
      exact Sm_le (leR_n (leR_n leR_nil)) (s_K_status_34 K hQ _ _ h)
    · rw [if_neg c3] at h
      refine Sm_run K ek_K_status 11 1 rfl ?_
      obtain ⟨a6, e_a6, h⟩ := Option.bind_eq_some_iff.mp h
      refine Sm_gr K (eo ek_K_status (i := 12) rfl) e_a6 ?_
      refine Sm_run K ek_K_status 13 1 rfl ?_
      obtain ⟨v7, e_v7, h⟩ := Option.bind_eq_some_iff.mp h
      refine Sm_rd K (eok_i (eo ek_K_status (i := 14) rfl) rfl) e_v7 ?_
      refine Sm_run K ek_K_status 15 1 rfl ?_
      exact Sm_le (leR_n (leR_n leR_nil)) (s_K_status_34 K hQ _ _ h)
  · rw [if_pos c1] at h
    refine Sm_run K ek_K_status 3 1 rfl ?_
    obtain ⟨o9, e_o9, h⟩ := Option.bind_eq_some_iff.mp h
    obtain ⟨p8, e_p8, h⟩ := Option.bind_eq_some_iff.mp h
    refine Sm_callV K (eok_i (eo ek_K_status (i := 4) rfl) rfl) cy_K_foundTogether im_K_foundTogether se_K_foundTogether (lgm 752 (by decide +kernel) rfl) ⟨Nat.le_of_ble_eq_true rfl, Nat.le_of_ble_eq_true rfl⟩ (as := []) (b := t) (st := []) (ob_e e_o9) (by decide) rfl rfl rfl rfl (Nat.le_of_ble_eq_true rfl) ⟨Nat.le_of_ble_eq_true rfl, Nat.le_of_ble_eq_true rfl⟩ (cn_K_foundTogether e_p8) ?_
    refine Sm_eq (st1 := .int p8.1 :: []) (nc1 := 0) (ns1 := 0) rfl rfl rfl ?_
    obtain rfl := Option.some.inj h
    exact Sm_reti K hQ (eok_i (eo ek_K_status (i := 5) rfl) rfl)
def F_K_status (t : Nat) (x1 : Int32) (w : A_W) : Option (Int32 × A_W) := F_K_status_0 t x1 w
theorem cn_K_status {G : Gx} {t : Nat} {x1 : Int32} {w : A_W} {res : Int32 × A_W} (h : F_K_status t x1 w = some res) : Cn G y_K_status c_K_status 2 (some .int) rm_K_status [.ref t, .int x1] w (some (.int res.1)) res.2 :=
  Cn_of (own := 0) cy_K_status rfl rfl (Nat.le_of_ble_eq_true rfl) rfl (fun X K _ hQ => Sm_le (leR_s (leR_s leR_nil)) (s_K_status_0 K hQ _ _ _ h))
