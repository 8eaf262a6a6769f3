/-! EveningCloak$Reader.step()V -/
abbrev c_D_step : ByteArray := prog_2_method_11_code
def y_D_step : MethodName := ⟨"EveningCloak$Reader", "step", "()V"⟩
def rm_D_step : Room := { frames := 1, cells := 0, slots := 0, locals := 21 }
theorem cy_D_step : Cy y_D_step c_D_step 1 (none) 0 := ⟨lgm 571 (by decide +kernel) rfl, lgm 71 (by decide +kernel) rfl, by decide +kernel, by decide +kernel⟩
theorem im_D_step : Cond.instanceMethod y_D_step ∈ lg := lgm 570 (by decide +kernel) rfl
theorem se_D_step : Cond.selects y_D_step.cls y_D_step y_D_step ∈ lg := lgm 9 (by decide +kernel) rfl
def e_D_step : List Ent := [
  (0, .aload_n 0, 1, 1, .null, 0, 0, 0),
  (1, .aload_n 0, 1, 2, .null, 0, 0, 0),
  (2, .getfield 19, 3, 5, .null, 1, 4, 182),
  (5, .putfield 32, 3, 8, .null, 1, 3, 181),
  (8, .aload_n 0, 1, 9, .null, 0, 0, 0),
  (9, .getfield 32, 3, 12, .null, 1, 3, 181),
  (12, .aload_n 0, 1, 13, .null, 0, 0, 0),
  (13, .getfield 15, 3, 16, .null, 1, 1, 178),
  (16, .if_icmp .ge 30, 3, 46, .null, 0, 0, 0),
  (19, .aload_n 0, 1, 20, .null, 0, 0, 0),
  (20, .getfield 9, 3, 23, .null, 1, 0, 177),
  (23, .aload_n 0, 1, 24, .null, 0, 0, 0),
  (24, .getfield 32, 3, 27, .null, 1, 3, 181),
  (27, .iaload, 1, 28, .null, 0, 0, 0),
  (28, .bipush 32, 2, 30, .int 32, 0, 0, 0),
  (30, .if_icmp .ne 16, 3, 46, .null, 0, 0, 0),
  (33, .aload_n 0, 1, 34, .null, 0, 0, 0),
  (34, .dup, 1, 35, .null, 0, 0, 0),
  (35, .getfield 32, 3, 38, .null, 1, 3, 181),
  (38, .iconst 1, 1, 39, .int 1, 0, 0, 0),
  (39, .iadd, 1, 40, .null, 0, 0, 0),
  (40, .putfield 32, 3, 43, .null, 1, 3, 181),
  (43, .goto (-35), 3, 8, .null, 0, 0, 0),
  (46, .aload_n 0, 1, 47, .null, 0, 0, 0),
  (47, .aload_n 0, 1, 48, .null, 0, 0, 0),
  (48, .getfield 32, 3, 51, .null, 1, 3, 181),
  (51, .putfield 19, 3, 54, .null, 1, 4, 182),
  (54, .aload_n 0, 1, 55, .null, 0, 0, 0),
  (55, .getfield 32, 3, 58, .null, 1, 3, 181),
  (58, .aload_n 0, 1, 59, .null, 0, 0, 0),
  (59, .getfield 15, 3, 62, .null, 1, 1, 178),
  (62, .if_icmp .lt 11, 3, 73, .null, 0, 0, 0),
  (65, .aload_n 0, 1, 66, .null, 0, 0, 0),
  (66, .iconst 0, 1, 67, .int 0, 0, 0, 0),
  (67, .putfield 29, 3, 70, .null, 1, 2, 180),
  (70, .goto 189, 3, 259, .null, 0, 0, 0),
  (73, .aload_n 0, 1, 74, .null, 0, 0, 0),
  (74, .getfield 9, 3, 77, .null, 1, 0, 177),
  (77, .aload_n 0, 1, 78, .null, 0, 0, 0),
  (78, .getfield 32, 3, 81, .null, 1, 3, 181),
  (81, .iaload, 1, 82, .null, 0, 0, 0),
  (82, .invokestatic 129, 3, 85, .null, 0, 0, 0),
  (85, .ifCond .eq 47, 3, 132, .null, 0, 0, 0),
  (88, .aload_n 0, 1, 89, .null, 0, 0, 0),
  (89, .iconst 1, 1, 90, .int 1, 0, 0, 0),
  (90, .putfield 29, 3, 93, .null, 1, 2, 180),
  (93, .aload_n 0, 1, 94, .null, 0, 0, 0),
  (94, .getfield 19, 3, 97, .null, 1, 4, 182),
  (97, .aload_n 0, 1, 98, .null, 0, 0, 0),
  (98, .getfield 15, 3, 101, .null, 1, 1, 178),
  (101, .if_icmp .ge 158, 3, 259, .null, 0, 0, 0),
  (104, .aload_n 0, 1, 105, .null, 0, 0, 0),
  (105, .getfield 9, 3, 108, .null, 1, 0, 177),
  (108, .aload_n 0, 1, 109, .null, 0, 0, 0),
  (109, .getfield 19, 3, 112, .null, 1, 4, 182),
  (112, .iaload, 1, 113, .null, 0, 0, 0),
  (113, .invokestatic 129, 3, 116, .null, 0, 0, 0),
  (116, .ifCond .eq 143, 3, 259, .null, 0, 0, 0),
  (119, .aload_n 0, 1, 120, .null, 0, 0, 0),
  (120, .dup, 1, 121, .null, 0, 0, 0),
  (121, .getfield 19, 3, 124, .null, 1, 4, 182),
  (124, .iconst 1, 1, 125, .int 1, 0, 0, 0),
  (125, .iadd, 1, 126, .null, 0, 0, 0),
  (126, .putfield 19, 3, 129, .null, 1, 4, 182),
  (129, .goto (-36), 3, 93, .null, 0, 0, 0),
  (132, .aload_n 0, 1, 133, .null, 0, 0, 0),
  (133, .getfield 9, 3, 136, .null, 1, 0, 177),
  (136, .aload_n 0, 1, 137, .null, 0, 0, 0),
  (137, .getfield 32, 3, 140, .null, 1, 3, 181),
  (140, .iaload, 1, 141, .null, 0, 0, 0),
  (141, .invokestatic 133, 3, 144, .null, 0, 0, 0),
  (144, .ifCond .eq 82, 3, 226, .null, 0, 0, 0),
  (147, .aload_n 0, 1, 148, .null, 0, 0, 0),
  (148, .iconst 2, 1, 149, .int 2, 0, 0, 0),
  (149, .putfield 29, 3, 152, .null, 1, 2, 180),
  (152, .aload_n 0, 1, 153, .null, 0, 0, 0),
  (153, .iconst 0, 1, 154, .int 0, 0, 0, 0),
  (154, .putfield 95, 3, 157, .null, 1, 5, 183),
  (157, .aload_n 0, 1, 158, .null, 0, 0, 0),
  (158, .getfield 19, 3, 161, .null, 1, 4, 182),
  (161, .aload_n 0, 1, 162, .null, 0, 0, 0),
  (162, .getfield 15, 3, 165, .null, 1, 1, 178),
  (165, .if_icmp .ge 94, 3, 259, .null, 0, 0, 0),
  (168, .aload_n 0, 1, 169, .null, 0, 0, 0),
  (169, .getfield 9, 3, 172, .null, 1, 0, 177),
  (172, .aload_n 0, 1, 173, .null, 0, 0, 0),
  (173, .getfield 19, 3, 176, .null, 1, 4, 182),
  (176, .iaload, 1, 177, .null, 0, 0, 0),
  (177, .invokestatic 133, 3, 180, .null, 0, 0, 0),
  (180, .ifCond .eq 79, 3, 259, .null, 0, 0, 0),
  (183, .aload_n 0, 1, 184, .null, 0, 0, 0),
  (184, .bipush 10, 2, 186, .int 10, 0, 0, 0),
  (186, .aload_n 0, 1, 187, .null, 0, 0, 0),
  (187, .getfield 95, 3, 190, .null, 1, 5, 183),
  (190, .imul, 1, 191, .null, 0, 0, 0),
  (191, .aload_n 0, 1, 192, .null, 0, 0, 0),
  (192, .getfield 9, 3, 195, .null, 1, 0, 177),
  (195, .aload_n 0, 1, 196, .null, 0, 0, 0),
  (196, .getfield 19, 3, 199, .null, 1, 4, 182),
  (199, .iaload, 1, 200, .null, 0, 0, 0),
  (200, .iadd, 1, 201, .null, 0, 0, 0),
  (201, .bipush 48, 2, 203, .int 48, 0, 0, 0),
  (203, .isub, 1, 204, .null, 0, 0, 0),
  (204, .sipush 10000, 3, 207, .int 10000, 0, 0, 0),
  (207, .invokestatic 136, 3, 210, .null, 0, 0, 0),
  (210, .putfield 95, 3, 213, .null, 1, 5, 183),
  (213, .aload_n 0, 1, 214, .null, 0, 0, 0),
  (214, .dup, 1, 215, .null, 0, 0, 0),
  (215, .getfield 19, 3, 218, .null, 1, 4, 182),
  (218, .iconst 1, 1, 219, .int 1, 0, 0, 0),
  (219, .iadd, 1, 220, .null, 0, 0, 0),
  (220, .putfield 19, 3, 223, .null, 1, 4, 182),
  (223, .goto (-66), 3, 157, .null, 0, 0, 0),
  (226, .aload_n 0, 1, 227, .null, 0, 0, 0),
  (227, .aload_n 0, 1, 228, .null, 0, 0, 0),
  (228, .getfield 9, 3, 231, .null, 1, 0, 177),
  (231, .aload_n 0, 1, 232, .null, 0, 0, 0),
  (232, .getfield 32, 3, 235, .null, 1, 3, 181),
  (235, .iaload, 1, 236, .null, 0, 0, 0),
  (236, .bipush 59, 2, 238, .int 59, 0, 0, 0),
  (238, .if_icmp .ne 7, 3, 245, .null, 0, 0, 0),
  (241, .iconst 3, 1, 242, .int 3, 0, 0, 0),
  (242, .goto 4, 3, 246, .null, 0, 0, 0),
  (245, .iconst 4, 1, 246, .int 4, 0, 0, 0),
  (246, .putfield 29, 3, 249, .null, 1, 2, 180),
  (249, .aload_n 0, 1, 250, .null, 0, 0, 0),
  (250, .dup, 1, 251, .null, 0, 0, 0),
  (251, .getfield 19, 3, 254, .null, 1, 4, 182),
  (254, .iconst 1, 1, 255, .int 1, 0, 0, 0),
  (255, .iadd, 1, 256, .null, 0, 0, 0),
  (256, .putfield 19, 3, 259, .null, 1, 4, 182),
  (259, .return_, 1, 260, .null, 0, 0, 0)]
set_option maxRecDepth 100000 in
theorem ek_D_step : e_D_step.all (eok 1 c_D_step) = true := by decide +kernel
def F_D_step_259 (w : A_W) : Option (A_W) :=
  some w
def F_D_step_93 : Nat → Nat → A_W → Option (A_W)
  | 0, _, _ => none
  | n + 1, t, w =>
    (gi w t 1 4).bind fun v1 =>
    (gi w t 1 1).bind fun v2 =>
    if v2 ≤ v1 then
      F_D_step_259 w
    else
      (gr w t 1 0).bind fun a4 =>
      (gi w t 1 4).bind fun v5 =>
      (rd w a4 v5).bind fun v6 =>
      (F_D_isLetter v6 w).bind fun p7 =>
      if p7.1 = 0 then
        F_D_step_259 p7.2
      else
        (gi p7.2 t 1 4).bind fun v9 =>
        (pf p7.2 t 1 4 (.int (v9 + 1))).bind fun w10 =>
        F_D_step_93 n t w10
def F_D_step_157 : Nat → Nat → A_W → Option (A_W)
  | 0, _, _ => none
  | n + 1, t, w =>
    (gi w t 1 4).bind fun v1 =>
    (gi w t 1 1).bind fun v2 =>
    if v2 ≤ v1 then
      F_D_step_259 w
    else
      (gr w t 1 0).bind fun a4 =>
      (gi w t 1 4).bind fun v5 =>
      (rd w a4 v5).bind fun v6 =>
      (F_D_isDigit v6 w).bind fun p7 =>
      if p7.1 = 0 then
        F_D_step_259 p7.2
      else
        (gi p7.2 t 1 5).bind fun v9 =>
        (gr p7.2 t 1 0).bind fun a10 =>
        (gi p7.2 t 1 4).bind fun v11 =>
        (rd p7.2 a10 v11).bind fun v12 =>
        (pf p7.2 t 1 5 (.int (jmin (((10 * v9) + v12) - 48) 10000))).bind fun w13 =>
        (gi w13 t 1 4).bind fun v14 =>
        (pf w13 t 1 4 (.int (v14 + 1))).bind fun w15 =>
        F_D_step_157 n t w15
def F_D_step_246 (t : Nat) (y0 : Nat) (y1 : Int32) (w : A_W) : Option (A_W) :=
  (pf w y0 1 2 (.int y1)).bind fun w1 =>
  (gi w1 t 1 4).bind fun v2 =>
  (pf w1 t 1 4 (.int (v2 + 1))).bind fun w3 =>
  F_D_step_259 w3
def F_D_step_46 (t : Nat) (w : A_W) : Option (A_W) :=
  (gi w t 1 3).bind fun v1 =>
  (pf w t 1 4 (.int v1)).bind fun w2 =>
  (gi w2 t 1 3).bind fun v3 =>
  (gi w2 t 1 1).bind fun v4 =>
  if v3 < v4 then
    (gr w2 t 1 0).bind fun a6 =>
    (gi w2 t 1 3).bind fun v7 =>
    (rd w2 a6 v7).bind fun v8 =>
    (F_D_isLetter v8 w2).bind fun p9 =>
    if p9.1 = 0 then
      (gr p9.2 t 1 0).bind fun a11 =>
      (gi p9.2 t 1 3).bind fun v12 =>
      (rd p9.2 a11 v12).bind fun v13 =>
      (F_D_isDigit v13 p9.2).bind fun p14 =>
      if p14.1 = 0 then
        (gr p14.2 t 1 0).bind fun a16 =>
        (gi p14.2 t 1 3).bind fun v17 =>
        (rd p14.2 a16 v17).bind fun v18 =>
        if v18 = 59 then
          F_D_step_246 t t 3 p14.2
        else
          F_D_step_246 t t 4 p14.2
      else
        (pf p14.2 t 1 2 (.int 2)).bind fun w20 =>
        (pf w20 t 1 5 (.int 0)).bind fun w21 =>
        F_D_step_157 FU t w21
    else
      (pf p9.2 t 1 2 (.int 1)).bind fun w22 =>
      F_D_step_93 FU t w22
  else
    (pf w2 t 1 2 (.int 0)).bind fun w23 =>
    F_D_step_259 w23
def F_D_step_8 : Nat → Nat → A_W → Option (A_W)
  | 0, _, _ => none
  | n + 1, t, w =>
    (gi w t 1 3).bind fun v1 =>
    (gi w t 1 1).bind fun v2 =>
    if v2 ≤ v1 then
      F_D_step_46 t w
    else
      (gr w t 1 0).bind fun a4 =>
      (gi w t 1 3).bind fun v5 =>
      (rd w a4 v5).bind fun v6 =>
      if v6 = 32 then
        (gi w t 1 3).bind fun v8 =>
        (pf w t 1 3 (.int (v8 + 1))).bind fun w9 =>
        F_D_step_8 n t w9
      else
        F_D_step_46 t w
def F_D_step_0 (t : Nat) (w : A_W) : Option (A_W) :=
  (gi w t 1 4).bind fun v1 =>
  (pf w t 1 3 (.int v1)).bind fun w2 =>
  F_D_step_8 FU t w2
set_option maxHeartbeats 4000000 in
set_option maxRecDepth 100000 in
theorem s_D_step_259 {G : Gx} {X : Cx} {res : A_W} (K : Ok G X 1 c_D_step 1 (none) rm_D_step) (hQ : QQ G X none res 0 0) (w : A_W) (h : F_D_step_259 w = some res) : Sm G X w 0 0 [none] [] 259 := by
  unfold F_D_step_259 at h
  obtain rfl := Option.some.inj h
  exact Sm_retv K hQ (eok_i (eo ek_D_step (i := 131) rfl) rfl)
set_option maxHeartbeats 4000000 in
set_option maxRecDepth 100000 in
theorem s_D_step_93 {G : Gx} {X : Cx} {res : A_W} (K : Ok G X 1 c_D_step 1 (none) rm_D_step) (hQ : QQ G X none res 0 0) : ∀ (n : Nat) (t : Nat) (w : A_W), F_D_step_93 n t w = some res → Sm G X w 0 0 [some (.ref t)] [] 93 := by
  intro n
  induction n with
  | zero => intro t w h; cases h
  | succ n ih =>
    intro t w h
    rw [F_D_step_93] at h
    refine Sm_run K ek_D_step 46 1 rfl ?_
    obtain ⟨v1, e_v1, h⟩ := Option.bind_eq_some_iff.mp h
    refine Sm_gi K (eo ek_D_step (i := 47) rfl) e_v1 ?_
    refine Sm_run K ek_D_step 48 1 rfl ?_
    obtain ⟨v2, e_v2, h⟩ := Option.bind_eq_some_iff.mp h
    refine Sm_gi K (eo ek_D_step (i := 49) rfl) e_v2 ?_
    refine Sm_ic_ge K (eo ek_D_step (i := 50) rfl) (fun c3 => ?_) (fun c3 => ?_)
    · rw [if_pos c3] at h
      exact Sm_le (leR_n leR_nil) (s_D_step_259 K hQ _ h)
    · rw [if_neg c3] at h
      refine Sm_run K ek_D_step 51 1 rfl ?_
      obtain ⟨a4, e_a4, h⟩ := Option.bind_eq_some_iff.mp h
      refine Sm_gr K (eo ek_D_step (i := 52) rfl) e_a4 ?_
      refine Sm_run K ek_D_step 53 1 rfl ?_
      obtain ⟨v5, e_v5, h⟩ := Option.bind_eq_some_iff.mp h
      refine Sm_gi K (eo ek_D_step (i := 54) rfl) e_v5 ?_
      obtain ⟨v6, e_v6, h⟩ := Option.bind_eq_some_iff.mp h
      refine Sm_rd K (eok_i (eo ek_D_step (i := 55) rfl) rfl) e_v6 ?_
      obtain ⟨p7, e_p7, h⟩ := Option.bind_eq_some_iff.mp h
      refine Sm_callS K (eok_i (eo ek_D_step (i := 56) rfl) rfl) cy_D_isLetter st_D_isLetter (lgm 572 (by decide +kernel) rfl) ⟨Nat.le_of_ble_eq_true rfl, Nat.le_of_ble_eq_true rfl⟩ (as := [.int v6]) (st := []) rfl rfl rfl (Nat.le_of_ble_eq_true rfl) ⟨Nat.le_of_ble_eq_true rfl, Nat.le_of_ble_eq_true rfl⟩ (cn_D_isLetter e_p7) ?_
      refine Sm_eq (st1 := .int p7.1 :: []) (nc1 := 0) (ns1 := 0) rfl rfl rfl ?_
      refine Sm_if_eq K (eo ek_D_step (i := 57) rfl) (fun c8 => ?_) (fun c8 => ?_)
      · rw [if_pos c8] at h
        exact Sm_le (leR_n leR_nil) (s_D_step_259 K hQ _ h)
      · rw [if_neg c8] at h
        refine Sm_run K ek_D_step 58 2 rfl ?_
        obtain ⟨v9, e_v9, h⟩ := Option.bind_eq_some_iff.mp h
        refine Sm_gi K (eo ek_D_step (i := 60) rfl) e_v9 ?_
        refine Sm_run K ek_D_step 61 2 rfl ?_
        obtain ⟨w10, e_w10, h⟩ := Option.bind_eq_some_iff.mp h
        refine Sm_pi K (eo ek_D_step (i := 63) rfl) rfl rfl e_w10 ?_
        refine Sm_run K ek_D_step 64 1 rfl ?_
        exact Sm_le (leR_s leR_nil) (ih _ _ h)
set_option maxHeartbeats 4000000 in
set_option maxRecDepth 100000 in
theorem s_D_step_157 {G : Gx} {X : Cx} {res : A_W} (K : Ok G X 1 c_D_step 1 (none) rm_D_step) (hQ : QQ G X none res 0 0) : ∀ (n : Nat) (t : Nat) (w : A_W), F_D_step_157 n t w = some res → Sm G X w 0 0 [some (.ref t)] [] 157 := by
  intro n
  induction n with
  | zero => intro t w h; cases h
  | succ n ih =>
    intro t w h
    rw [F_D_step_157] at h
    refine Sm_run K ek_D_step 78 1 rfl ?_
    obtain ⟨v1, e_v1, h⟩ := Option.bind_eq_some_iff.mp h
    refine Sm_gi K (eo ek_D_step (i := 79) rfl) e_v1 ?_
    refine Sm_run K ek_D_step 80 1 rfl ?_
    obtain ⟨v2, e_v2, h⟩ := Option.bind_eq_some_iff.mp h
    refine Sm_gi K (eo ek_D_step (i := 81) rfl) e_v2 ?_
    refine Sm_ic_ge K (eo ek_D_step (i := 82) rfl) (fun c3 => ?_) (fun c3 => ?_)
    · rw [if_pos c3] at h
      exact Sm_le (leR_n leR_nil) (s_D_step_259 K hQ _ h)
    · rw [if_neg c3] at h
      refine Sm_run K ek_D_step 83 1 rfl ?_
      obtain ⟨a4, e_a4, h⟩ := Option.bind_eq_some_iff.mp h
      refine Sm_gr K (eo ek_D_step (i := 84) rfl) e_a4 ?_
      refine Sm_run K ek_D_step 85 1 rfl ?_
      obtain ⟨v5, e_v5, h⟩ := Option.bind_eq_some_iff.mp h
      refine Sm_gi K (eo ek_D_step (i := 86) rfl) e_v5 ?_
      obtain ⟨v6, e_v6, h⟩ := Option.bind_eq_some_iff.mp h
      refine Sm_rd K (eok_i (eo ek_D_step (i := 87) rfl) rfl) e_v6 ?_
      obtain ⟨p7, e_p7, h⟩ := Option.bind_eq_some_iff.mp h
      refine Sm_callS K (eok_i (eo ek_D_step (i := 88) rfl) rfl) cy_D_isDigit st_D_isDigit (lgm 575 (by decide +kernel) rfl) ⟨Nat.le_of_ble_eq_true rfl, Nat.le_of_ble_eq_true rfl⟩ (as := [.int v6]) (st := []) rfl rfl rfl (Nat.le_of_ble_eq_true rfl) ⟨Nat.le_of_ble_eq_true rfl, Nat.le_of_ble_eq_true rfl⟩ (cn_D_isDigit e_p7) ?_
      refine Sm_eq (st1 := .int p7.1 :: []) (nc1 := 0) (ns1 := 0) rfl rfl rfl ?_
      refine Sm_if_eq K (eo ek_D_step (i := 89) rfl) (fun c8 => ?_) (fun c8 => ?_)
      · rw [if_pos c8] at h
        exact Sm_le (leR_n leR_nil) (s_D_step_259 K hQ _ h)
      · rw [if_neg c8] at h
        refine Sm_run K ek_D_step 90 3 rfl ?_
        obtain ⟨v9, e_v9, h⟩ := Option.bind_eq_some_iff.mp h
        refine Sm_gi K (eo ek_D_step (i := 93) rfl) e_v9 ?_
        refine Sm_run K ek_D_step 94 2 rfl ?_
        obtain ⟨a10, e_a10, h⟩ := Option.bind_eq_some_iff.mp h
        refine Sm_gr K (eo ek_D_step (i := 96) rfl) e_a10 ?_
        refine Sm_run K ek_D_step 97 1 rfl ?_
        obtain ⟨v11, e_v11, h⟩ := Option.bind_eq_some_iff.mp h
        refine Sm_gi K (eo ek_D_step (i := 98) rfl) e_v11 ?_
        obtain ⟨v12, e_v12, h⟩ := Option.bind_eq_some_iff.mp h
        refine Sm_rd K (eok_i (eo ek_D_step (i := 99) rfl) rfl) e_v12 ?_
        refine Sm_run K ek_D_step 100 4 rfl ?_
        refine Sm_min K (eok_i (eo ek_D_step (i := 104) rfl) rfl) (lgm 578 (by decide +kernel) rfl) rfl (Nat.le_of_ble_eq_true rfl) (Nat.le_of_ble_eq_true rfl) (Nat.zero_le _) (Nat.zero_le _) ?_
        obtain ⟨w13, e_w13, h⟩ := Option.bind_eq_some_iff.mp h
        refine Sm_pi K (eo ek_D_step (i := 105) rfl) rfl rfl e_w13 ?_
        refine Sm_run K ek_D_step 106 2 rfl ?_
        obtain ⟨v14, e_v14, h⟩ := Option.bind_eq_some_iff.mp h
        refine Sm_gi K (eo ek_D_step (i := 108) rfl) e_v14 ?_
        refine Sm_run K ek_D_step 109 2 rfl ?_
        obtain ⟨w15, e_w15, h⟩ := Option.bind_eq_some_iff.mp h
        refine Sm_pi K (eo ek_D_step (i := 111) rfl) rfl rfl e_w15 ?_
        refine Sm_run K ek_D_step 112 1 rfl ?_
        exact Sm_le (leR_s leR_nil) (ih _ _ h)
set_option maxHeartbeats 4000000 in
set_option maxRecDepth 100000 in
theorem s_D_step_246 {G : Gx} {X : Cx} {res : A_W} (K : Ok G X 1 c_D_step 1 (none) rm_D_step) (hQ : QQ G X none res 0 0) (t : Nat) (y0 : Nat) (y1 : Int32) (w : A_W) (h : F_D_step_246 t y0 y1 w = some res) : Sm G X w 0 0 [some (.ref t)] [.int y1, .ref y0] 246 := by
  unfold F_D_step_246 at h
  obtain ⟨w1, e_w1, h⟩ := Option.bind_eq_some_iff.mp h
  refine Sm_pi K (eo ek_D_step (i := 124) rfl) rfl rfl e_w1 ?_
  refine Sm_run K ek_D_step 125 2 rfl ?_
  obtain ⟨v2, e_v2, h⟩ := Option.bind_eq_some_iff.mp h
  refine Sm_gi K (eo ek_D_step (i := 127) rfl) e_v2 ?_
  refine Sm_run K ek_D_step 128 2 rfl ?_
  obtain ⟨w3, e_w3, h⟩ := Option.bind_eq_some_iff.mp h
  refine Sm_pi K (eo ek_D_step (i := 130) rfl) rfl rfl e_w3 ?_
  exact Sm_le (leR_n leR_nil) (s_D_step_259 K hQ _ h)
set_option maxHeartbeats 4000000 in
set_option maxRecDepth 100000 in
theorem s_D_step_46 {G : Gx} {X : Cx} {res : A_W} (K : Ok G X 1 c_D_step 1 (none) rm_D_step) (hQ : QQ G X none res 0 0) (t : Nat) (w : A_W) (h : F_D_step_46 t w = some res) : Sm G X w 0 0 [some (.ref t)] [] 46 := by
  unfold F_D_step_46 at h
  refine Sm_run K ek_D_step 23 2 rfl ?_
  obtain ⟨v1, e_v1, h⟩ := Option.bind_eq_some_iff.mp h
  refine Sm_gi K (eo ek_D_step (i := 25) rfl) e_v1 ?_
  obtain ⟨w2, e_w2, h⟩ := Option.bind_eq_some_iff.mp h
  refine Sm_pi K (eo ek_D_step (i := 26) rfl) rfl rfl e_w2 ?_
  refine Sm_run K ek_D_step 27 1 rfl ?_
  obtain ⟨v3, e_v3, h⟩ := Option.bind_eq_some_iff.mp h
  refine Sm_gi K (eo ek_D_step (i := 28) rfl) e_v3 ?_
  refine Sm_run K ek_D_step 29 1 rfl ?_
  obtain ⟨v4, e_v4, h⟩ := Option.bind_eq_some_iff.mp h
  refine Sm_gi K (eo ek_D_step (i := 30) rfl) e_v4 ?_
  refine Sm_ic_lt K (eo ek_D_step (i := 31) rfl) (fun c5 => ?_) (fun c5 => ?_)
  · rw [if_pos c5] at h
    refine Sm_run K ek_D_step 36 1 rfl ?_
    obtain ⟨a6, e_a6, h⟩ := Option.bind_eq_some_iff.mp h
    refine Sm_gr K (eo ek_D_step (i := 37) rfl) e_a6 ?_
    refine Sm_run K ek_D_step 38 1 rfl ?_
    obtain ⟨v7, e_v7, h⟩ := Option.bind_eq_some_iff.mp h
    refine Sm_gi K (eo ek_D_step (i := 39) rfl) e_v7 ?_
    obtain ⟨v8, e_v8, h⟩ := Option.bind_eq_some_iff.mp h
    refine Sm_rd K (eok_i (eo ek_D_step (i := 40) rfl) rfl) e_v8 ?_
    obtain ⟨p9, e_p9, h⟩ := Option.bind_eq_some_iff.mp h
    refine Sm_callS K (eok_i (eo ek_D_step (i := 41) rfl) rfl) cy_D_isLetter st_D_isLetter (lgm 572 (by decide +kernel) rfl) ⟨Nat.le_of_ble_eq_true rfl, Nat.le_of_ble_eq_true rfl⟩ (as := [.int v8]) (st := []) rfl rfl rfl (Nat.le_of_ble_eq_true rfl) ⟨Nat.le_of_ble_eq_true rfl, Nat.le_of_ble_eq_true rfl⟩ (cn_D_isLetter e_p9) ?_
    refine Sm_eq (st1 := .int p9.1 :: []) (nc1 := 0) (ns1 := 0) rfl rfl rfl ?_
    refine Sm_if_eq K (eo ek_D_step (i := 42) rfl) (fun c10 => ?_) (fun c10 => ?_)
    · rw [if_pos c10] at h
      refine Sm_run K ek_D_step 65 1 rfl ?_
      obtain ⟨a11, e_a11, h⟩ := Option.bind_eq_some_iff.mp h
      refine Sm_gr K (eo ek_D_step (i := 66) rfl) e_a11 ?_
      refine Sm_run K ek_D_step 67 1 rfl ?_
      obtain ⟨v12, e_v12, h⟩ := Option.bind_eq_some_iff.mp h
      refine Sm_gi K (eo ek_D_step (i := 68) rfl) e_v12 ?_
      obtain ⟨v13, e_v13, h⟩ := Option.bind_eq_some_iff.mp h
      refine Sm_rd K (eok_i (eo ek_D_step (i := 69) rfl) rfl) e_v13 ?_
      obtain ⟨p14, e_p14, h⟩ := Option.bind_eq_some_iff.mp h
      refine Sm_callS K (eok_i (eo ek_D_step (i := 70) rfl) rfl) cy_D_isDigit st_D_isDigit (lgm 575 (by decide +kernel) rfl) ⟨Nat.le_of_ble_eq_true rfl, Nat.le_of_ble_eq_true rfl⟩ (as := [.int v13]) (st := []) rfl rfl rfl (Nat.le_of_ble_eq_true rfl) ⟨Nat.le_of_ble_eq_true rfl, Nat.le_of_ble_eq_true rfl⟩ (cn_D_isDigit e_p14) ?_
      refine Sm_eq (st1 := .int p14.1 :: []) (nc1 := 0) (ns1 := 0) rfl rfl rfl ?_
      refine Sm_if_eq K (eo ek_D_step (i := 71) rfl) (fun c15 => ?_) (fun c15 => ?_)
      · rw [if_pos c15] at h
        refine Sm_run K ek_D_step 113 2 rfl ?_
        obtain ⟨a16, e_a16, h⟩ := Option.bind_eq_some_iff.mp h
        refine Sm_gr K (eo ek_D_step (i := 115) rfl) e_a16 ?_
        refine Sm_run K ek_D_step 116 1 rfl ?_
        obtain ⟨v17, e_v17, h⟩ := Option.bind_eq_some_iff.mp h
        refine Sm_gi K (eo ek_D_step (i := 117) rfl) e_v17 ?_
        obtain ⟨v18, e_v18, h⟩ := Option.bind_eq_some_iff.mp h
        refine Sm_rd K (eok_i (eo ek_D_step (i := 118) rfl) rfl) e_v18 ?_
        refine Sm_run K ek_D_step 119 1 rfl ?_
        refine Sm_ic_ne K (eo ek_D_step (i := 120) rfl) (fun c19 => ?_) (fun c19 => ?_)
        · rw [if_neg c19] at h
          refine Sm_run K ek_D_step 123 1 rfl ?_
          exact Sm_le (leR_s leR_nil) (s_D_step_246 K hQ _ _ _ _ h)
        · rw [if_pos c19] at h
          refine Sm_run K ek_D_step 121 2 rfl ?_
          exact Sm_le (leR_s leR_nil) (s_D_step_246 K hQ _ _ _ _ h)
      · rw [if_neg c15] at h
        refine Sm_run K ek_D_step 72 2 rfl ?_
        obtain ⟨w20, e_w20, h⟩ := Option.bind_eq_some_iff.mp h
        refine Sm_pi K (eo ek_D_step (i := 74) rfl) rfl rfl e_w20 ?_
        refine Sm_run K ek_D_step 75 2 rfl ?_
        obtain ⟨w21, e_w21, h⟩ := Option.bind_eq_some_iff.mp h
        refine Sm_pi K (eo ek_D_step (i := 77) rfl) rfl rfl e_w21 ?_
        exact Sm_le (leR_s leR_nil) (s_D_step_157 K hQ FU _ _ h)
    · rw [if_neg c10] at h
      refine Sm_run K ek_D_step 43 2 rfl ?_
      obtain ⟨w22, e_w22, h⟩ := Option.bind_eq_some_iff.mp h
      refine Sm_pi K (eo ek_D_step (i := 45) rfl) rfl rfl e_w22 ?_
      exact Sm_le (leR_s leR_nil) (s_D_step_93 K hQ FU _ _ h)
  · rw [if_neg c5] at h
    refine Sm_run K ek_D_step 32 2 rfl ?_
    obtain ⟨w23, e_w23, h⟩ := Option.bind_eq_some_iff.mp h
    refine Sm_pi K (eo ek_D_step (i := 34) rfl) rfl rfl e_w23 ?_
    refine Sm_run K ek_D_step 35 1 rfl ?_
    exact Sm_le (leR_n leR_nil) (s_D_step_259 K hQ _ h)
set_option maxHeartbeats 4000000 in
set_option maxRecDepth 100000 in
theorem s_D_step_8 {G : Gx} {X : Cx} {res : A_W} (K : Ok G X 1 c_D_step 1 (none) rm_D_step) (hQ : QQ G X none res 0 0) : ∀ (n : Nat) (t : Nat) (w : A_W), F_D_step_8 n t w = some res → Sm G X w 0 0 [some (.ref t)] [] 8 := by
  intro n
  induction n with
  | zero => intro t w h; cases h
  | succ n ih =>
    intro t w h
    rw [F_D_step_8] at h
    refine Sm_run K ek_D_step 4 1 rfl ?_
    obtain ⟨v1, e_v1, h⟩ := Option.bind_eq_some_iff.mp h
    refine Sm_gi K (eo ek_D_step (i := 5) rfl) e_v1 ?_
    refine Sm_run K ek_D_step 6 1 rfl ?_
    obtain ⟨v2, e_v2, h⟩ := Option.bind_eq_some_iff.mp h
    refine Sm_gi K (eo ek_D_step (i := 7) rfl) e_v2 ?_
    refine Sm_ic_ge K (eo ek_D_step (i := 8) rfl) (fun c3 => ?_) (fun c3 => ?_)
    · rw [if_pos c3] at h
      exact Sm_le (leR_s leR_nil) (s_D_step_46 K hQ _ _ h)
    · rw [if_neg c3] at h
      refine Sm_run K ek_D_step 9 1 rfl ?_
      obtain ⟨a4, e_a4, h⟩ := Option.bind_eq_some_iff.mp h
      refine Sm_gr K (eo ek_D_step (i := 10) rfl) e_a4 ?_
      refine Sm_run K ek_D_step 11 1 rfl ?_
      obtain ⟨v5, e_v5, h⟩ := Option.bind_eq_some_iff.mp h
      refine Sm_gi K (eo ek_D_step (i := 12) rfl) e_v5 ?_
      obtain ⟨v6, e_v6, h⟩ := Option.bind_eq_some_iff.mp h
      refine Sm_rd K (eok_i (eo ek_D_step (i := 13) rfl) rfl) e_v6 ?_
      refine Sm_run K ek_D_step 14 1 rfl ?_
      refine Sm_ic_ne K (eo ek_D_step (i := 15) rfl) (fun c7 => ?_) (fun c7 => ?_)
      · rw [if_neg c7] at h
        exact Sm_le (leR_s leR_nil) (s_D_step_46 K hQ _ _ h)
      · rw [if_pos c7] at h
        refine Sm_run K ek_D_step 16 2 rfl ?_
        obtain ⟨v8, e_v8, h⟩ := Option.bind_eq_some_iff.mp h
        refine Sm_gi K (eo ek_D_step (i := 18) rfl) e_v8 ?_
        refine Sm_run K ek_D_step 19 2 rfl ?_
        obtain ⟨w9, e_w9, h⟩ := Option.bind_eq_some_iff.mp h
        refine Sm_pi K (eo ek_D_step (i := 21) rfl) rfl rfl e_w9 ?_
        refine Sm_run K ek_D_step 22 1 rfl ?_
        exact Sm_le (leR_s leR_nil) (ih _ _ h)
set_option maxHeartbeats 4000000 in
set_option maxRecDepth 100000 in
theorem s_D_step_0 {G : Gx} {X : Cx} {res : A_W} (K : Ok G X 1 c_D_step 1 (none) rm_D_step) (hQ : QQ G X none res 0 0) (t : Nat) (w : A_W) (h : F_D_step_0 t w = some res) : Sm G X w 0 0 [some (.ref t)] [] 0 := by
  unfold F_D_step_0 at h
  refine Sm_run K ek_D_step 0 2 rfl ?_
  obtain ⟨v1, e_v1, h⟩ := Option.bind_eq_some_iff.mp h
  refine Sm_gi K (eo ek_D_step (i := 2) rfl) e_v1 ?_
  obtain ⟨w2, e_w2, h⟩ := Option.bind_eq_some_iff.mp h
  refine Sm_pi K (eo ek_D_step (i := 3) rfl) rfl rfl e_w2 ?_
  exact Sm_le (leR_s leR_nil) (s_D_step_8 K hQ FU _ _ h)
def F_D_step (t : Nat) (w : A_W) : Option (A_W) := F_D_step_0 t w
theorem cn_D_step {G : Gx} {t : Nat} {w : A_W} {res : A_W} (h : F_D_step t w = some res) : Cn G y_D_step c_D_step 1 (none) rm_D_step [.ref t] w none res :=
  Cn_of (own := 1) cy_D_step rfl rfl (Nat.le_of_ble_eq_true rfl) rfl (fun X K _ hQ => Sm_le (leR_s leR_nil) (s_D_step_0 K hQ _ _ h))
/-! EveningCloak$Reader.isWord(Ljava/lang/String;)Z -/
abbrev c_D_isWord : ByteArray := prog_2_method_10_code
def y_D_isWord : MethodName := ⟨"EveningCloak$Reader", "isWord", "(Ljava/lang/String;)Z"⟩
def rm_D_isWord : Room := { frames := 4, cells := 0, slots := 0, locals := 85 }
theorem cy_D_isWord : Cy y_D_isWord c_D_isWord 3 (some .boolean) 1 := ⟨lgm 587 (by decide +kernel) rfl, lgm 71 (by decide +kernel) rfl, by decide +kernel, by decide +kernel⟩
theorem im_D_isWord : Cond.instanceMethod y_D_isWord ∈ lg := lgm 586 (by decide +kernel) rfl
theorem se_D_isWord : Cond.selects y_D_isWord.cls y_D_isWord y_D_isWord ∈ lg := lgm 11 (by decide +kernel) rfl
def e_D_isWord : List Ent := [
  (0, .aload_n 0, 1, 1, .null, 0, 0, 0),
  (1, .getfield 29, 3, 4, .null, 1, 2, 180),
  (4, .iconst 1, 1, 5, .int 1, 0, 0, 0),
  (5, .if_icmp .ne 19, 3, 24, .null, 0, 0, 0),
  (8, .aload_n 0, 1, 9, .null, 0, 0, 0),
  (9, .getfield 19, 3, 12, .null, 1, 4, 182),
  (12, .aload_n 0, 1, 13, .null, 0, 0, 0),
  (13, .getfield 32, 3, 16, .null, 1, 3, 181),
  (16, .isub, 1, 17, .null, 0, 0, 0),
  (17, .aload_n 1, 1, 18, .null, 0, 0, 0),
  (18, .invokevirtual 119, 3, 21, .null, 0, 0, 0),
  (21, .if_icmp .eq 5, 3, 26, .null, 0, 0, 0),
  (24, .iconst 0, 1, 25, .int 0, 0, 0, 0),
  (25, .ireturn, 1, 26, .null, 0, 0, 0),
  (26, .iconst 0, 1, 27, .int 0, 0, 0, 0),
  (27, .istore_n 2, 1, 28, .null, 0, 0, 0),
  (28, .iload_n 2, 1, 29, .null, 0, 0, 0),
  (29, .aload_n 1, 1, 30, .null, 0, 0, 0),
  (30, .invokevirtual 119, 3, 33, .null, 0, 0, 0),
  (33, .if_icmp .ge 30, 3, 63, .null, 0, 0, 0),
  (36, .aload_n 0, 1, 37, .null, 0, 0, 0),
  (37, .getfield 9, 3, 40, .null, 1, 0, 177),
  (40, .aload_n 0, 1, 41, .null, 0, 0, 0),
  (41, .getfield 32, 3, 44, .null, 1, 3, 181),
  (44, .iload_n 2, 1, 45, .null, 0, 0, 0),
  (45, .iadd, 1, 46, .null, 0, 0, 0),
  (46, .iaload, 1, 47, .null, 0, 0, 0),
  (47, .aload_n 1, 1, 48, .null, 0, 0, 0),
  (48, .iload_n 2, 1, 49, .null, 0, 0, 0),
  (49, .invokevirtual 125, 3, 52, .null, 0, 0, 0),
  (52, .if_icmp .eq 5, 3, 57, .null, 0, 0, 0),
  (55, .iconst 0, 1, 56, .int 0, 0, 0, 0),
  (56, .ireturn, 1, 57, .null, 0, 0, 0),
  (57, .iinc 2 1, 3, 60, .int 1, 0, 0, 0),
  (60, .goto (-32), 3, 28, .null, 0, 0, 0),
  (63, .iconst 1, 1, 64, .int 1, 0, 0, 0),
  (64, .ireturn, 1, 65, .null, 0, 0, 0)]
set_option maxRecDepth 100000 in
theorem ek_D_isWord : e_D_isWord.all (eok 1 c_D_isWord) = true := by decide +kernel
def F_D_isWord_24 (w : A_W) : Option (Int32 × A_W) :=
  (bz 0).bind fun b1 =>
  some (b1, w)
def F_D_isWord_28 : Nat → Nat → Nat → Int32 → A_W → Option (Int32 × A_W)
  | 0, _, _, _, _ => none
  | n + 1, t, x1, x2, w =>
    (F_T_length x1 w).bind fun p1 =>
    if p1.1 ≤ x2 then
      (bz 1).bind fun b3 =>
      some (b3, p1.2)
    else
      (gr p1.2 t 1 0).bind fun a4 =>
      (gi p1.2 t 1 3).bind fun v5 =>
      (rd p1.2 a4 (v5 + x2)).bind fun v6 =>
      (F_T_charAt x1 x2 p1.2).bind fun p7 =>
      if v6 = p7.1 then
        F_D_isWord_28 n t x1 (x2 + 1) p7.2
      else
        (bz 0).bind fun b9 =>
        some (b9, p7.2)
def F_D_isWord_0 (t : Nat) (x1 : Nat) (w : A_W) : Option (Int32 × A_W) :=
  (gi w t 1 2).bind fun v1 =>
  if v1 = 1 then
    (gi w t 1 4).bind fun v3 =>
    (gi w t 1 3).bind fun v4 =>
    (F_T_length x1 w).bind fun p5 =>
    if (v3 - v4) = p5.1 then
      F_D_isWord_28 FU t x1 0 p5.2
    else
      F_D_isWord_24 p5.2
  else
    F_D_isWord_24 w
set_option maxHeartbeats 4000000 in
set_option maxRecDepth 100000 in
theorem s_D_isWord_24 {G : Gx} {X : Cx} {res : Int32 × A_W} (K : Ok G X 1 c_D_isWord 3 (some .boolean) rm_D_isWord) (hQ : QQ G X (some (.int res.1)) res.2 0 0) (w : A_W) (h : F_D_isWord_24 w = some res) : Sm G X w 0 0 [none, none, none] [] 24 := by
  unfold F_D_isWord_24 at h
  refine Sm_run K ek_D_isWord 12 1 rfl ?_
  obtain ⟨b1, e_b1, h⟩ := Option.bind_eq_some_iff.mp h
  obtain rfl := Option.some.inj h
  exact Sm_retz K e_b1 hQ (eok_i (eo ek_D_isWord (i := 13) rfl) rfl)
set_option maxHeartbeats 4000000 in
set_option maxRecDepth 100000 in
theorem s_D_isWord_28 {G : Gx} {X : Cx} {res : Int32 × A_W} (K : Ok G X 1 c_D_isWord 3 (some .boolean) rm_D_isWord) (hQ : QQ G X (some (.int res.1)) res.2 0 0) : ∀ (n : Nat) (t : Nat) (x1 : Nat) (x2 : Int32) (w : A_W), F_D_isWord_28 n t x1 x2 w = some res → Sm G X w 0 0 [some (.ref t), some (.ref x1), some (.int x2)] [] 28 := by
  intro n
  induction n with
  | zero => intro t x1 x2 w h; cases h
  | succ n ih =>
    intro t x1 x2 w h
    rw [F_D_isWord_28] at h
    refine Sm_run K ek_D_isWord 16 2 rfl ?_
    obtain ⟨p1, e_p1, h⟩ := Option.bind_eq_some_iff.mp h
    refine Sm_callT K (eok_i (eo ek_D_isWord (i := 18) rfl) rfl) cy_T_length im_T_length se_T_length (lgm 588 (by decide +kernel) rfl) ⟨Nat.le_of_ble_eq_true rfl, Nat.le_of_ble_eq_true rfl⟩ (as := []) (b := x1) (st := [.int x2]) (sx_length e_p1) rfl rfl rfl (Nat.le_of_ble_eq_true rfl) ⟨Nat.le_of_ble_eq_true rfl, Nat.le_of_ble_eq_true rfl⟩ (cn_T_length e_p1) ?_
    refine Sm_eq (st1 := .int p1.1 :: [.int x2]) (nc1 := 0) (ns1 := 0) rfl rfl rfl ?_
    refine Sm_ic_ge K (eo ek_D_isWord (i := 19) rfl) (fun c2 => ?_) (fun c2 => ?_)
    · rw [if_pos c2] at h
      refine Sm_run K ek_D_isWord 35 1 rfl ?_
      obtain ⟨b3, e_b3, h⟩ := Option.bind_eq_some_iff.mp h
      obtain rfl := Option.some.inj h
      exact Sm_retz K e_b3 hQ (eok_i (eo ek_D_isWord (i := 36) rfl) rfl)
    · rw [if_neg c2] at h
      refine Sm_run K ek_D_isWord 20 1 rfl ?_
      obtain ⟨a4, e_a4, h⟩ := Option.bind_eq_some_iff.mp h
      refine Sm_gr K (eo ek_D_isWord (i := 21) rfl) e_a4 ?_
      refine Sm_run K ek_D_isWord 22 1 rfl ?_
      obtain ⟨v5, e_v5, h⟩ := Option.bind_eq_some_iff.mp h
      refine Sm_gi K (eo ek_D_isWord (i := 23) rfl) e_v5 ?_
      refine Sm_run K ek_D_isWord 24 2 rfl ?_
      obtain ⟨v6, e_v6, h⟩ := Option.bind_eq_some_iff.mp h
      refine Sm_rd K (eok_i (eo ek_D_isWord (i := 26) rfl) rfl) e_v6 ?_
      refine Sm_run K ek_D_isWord 27 2 rfl ?_
      obtain ⟨p7, e_p7, h⟩ := Option.bind_eq_some_iff.mp h
      refine Sm_callT K (eok_i (eo ek_D_isWord (i := 29) rfl) rfl) cy_T_charAt im_T_charAt se_T_charAt (lgm 598 (by decide +kernel) rfl) ⟨Nat.le_of_ble_eq_true rfl, Nat.le_of_ble_eq_true rfl⟩ (as := [.int x2]) (b := x1) (st := [.int v6]) (sx_charAt e_p7) rfl rfl rfl (Nat.le_of_ble_eq_true rfl) ⟨Nat.le_of_ble_eq_true rfl, Nat.le_of_ble_eq_true rfl⟩ (cn_T_charAt e_p7) ?_
      refine Sm_eq (st1 := .int p7.1 :: [.int v6]) (nc1 := 0) (ns1 := 0) rfl rfl rfl ?_
      refine Sm_ic_eq K (eo ek_D_isWord (i := 30) rfl) (fun c8 => ?_) (fun c8 => ?_)
      · rw [if_pos c8] at h
        refine Sm_run K ek_D_isWord 33 2 rfl ?_
        exact Sm_le (leR_s (leR_s (leR_s leR_nil))) (ih _ _ _ _ h)
      · rw [if_neg c8] at h
        refine Sm_run K ek_D_isWord 31 1 rfl ?_
        obtain ⟨b9, e_b9, h⟩ := Option.bind_eq_some_iff.mp h
        obtain rfl := Option.some.inj h
        exact Sm_retz K e_b9 hQ (eok_i (eo ek_D_isWord (i := 32) rfl) rfl)
set_option maxHeartbeats 4000000 in
set_option maxRecDepth 100000 in
theorem s_D_isWord_0 {G : Gx} {X : Cx} {res : Int32 × A_W} (K : Ok G X 1 c_D_isWord 3 (some .boolean) rm_D_isWord) (hQ : QQ G X (some (.int res.1)) res.2 0 0) (t : Nat) (x1 : Nat) (w : A_W) (h : F_D_isWord_0 t x1 w = some res) : Sm G X w 0 0 [some (.ref t), some (.ref x1), none] [] 0 := by
  unfold F_D_isWord_0 at h
  refine Sm_run K ek_D_isWord 0 1 rfl ?_
  obtain ⟨v1, e_v1, h⟩ := Option.bind_eq_some_iff.mp h
  refine Sm_gi K (eo ek_D_isWord (i := 1) rfl) e_v1 ?_
  refine Sm_run K ek_D_isWord 2 1 rfl ?_
  refine Sm_ic_ne K (eo ek_D_isWord (i := 3) rfl) (fun c2 => ?_) (fun c2 => ?_)
  · rw [if_neg c2] at h
    exact Sm_le (leR_n (leR_n (leR_n leR_nil))) (s_D_isWord_24 K hQ _ h)
  · rw [if_pos c2] at h
    refine Sm_run K ek_D_isWord 4 1 rfl ?_
    obtain ⟨v3, e_v3, h⟩ := Option.bind_eq_some_iff.mp h
    refine Sm_gi K (eo ek_D_isWord (i := 5) rfl) e_v3 ?_
    refine Sm_run K ek_D_isWord 6 1 rfl ?_
    obtain ⟨v4, e_v4, h⟩ := Option.bind_eq_some_iff.mp h
    refine Sm_gi K (eo ek_D_isWord (i := 7) rfl) e_v4 ?_
    refine Sm_run K ek_D_isWord 8 2 rfl ?_
    obtain ⟨p5, e_p5, h⟩ := Option.bind_eq_some_iff.mp h
    refine Sm_callT K (eok_i (eo ek_D_isWord (i := 10) rfl) rfl) cy_T_length im_T_length se_T_length (lgm 588 (by decide +kernel) rfl) ⟨Nat.le_of_ble_eq_true rfl, Nat.le_of_ble_eq_true rfl⟩ (as := []) (b := x1) (st := [.int (v3 - v4)]) (sx_length e_p5) rfl rfl rfl (Nat.le_of_ble_eq_true rfl) ⟨Nat.le_of_ble_eq_true rfl, Nat.le_of_ble_eq_true rfl⟩ (cn_T_length e_p5) ?_
    refine Sm_eq (st1 := .int p5.1 :: [.int (v3 - v4)]) (nc1 := 0) (ns1 := 0) rfl rfl rfl ?_
    refine Sm_ic_eq K (eo ek_D_isWord (i := 11) rfl) (fun c6 => ?_) (fun c6 => ?_)
    · rw [if_pos c6] at h
      refine Sm_run K ek_D_isWord 14 2 rfl ?_
      exact Sm_le (leR_s (leR_s (leR_s leR_nil))) (s_D_isWord_28 K hQ FU _ _ _ _ h)
    · rw [if_neg c6] at h
      exact Sm_le (leR_n (leR_n (leR_n leR_nil))) (s_D_isWord_24 K hQ _ h)
def F_D_isWord (t : Nat) (x1 : Nat) (w : A_W) : Option (Int32 × A_W) := F_D_isWord_0 t x1 w
theorem cn_D_isWord {G : Gx} {t : Nat} {x1 : Nat} {w : A_W} {res : Int32 × A_W} (h : F_D_isWord t x1 w = some res) : Cn G y_D_isWord c_D_isWord 3 (some .boolean) rm_D_isWord [.ref t, .ref x1] w (some (.int res.1)) res.2 :=
  Cn_of (own := 1) cy_D_isWord rfl rfl (Nat.le_of_ble_eq_true rfl) rfl (fun X K _ hQ => Sm_le (leR_s (leR_s (leR_n leR_nil))) (s_D_isWord_0 K hQ _ _ _ h))
/-! EveningCloak$Reader.isNumber(II)Z -/
abbrev c_D_isNumber : ByteArray := prog_2_method_9_code
def y_D_isNumber : MethodName := ⟨"EveningCloak$Reader", "isNumber", "(II)Z"⟩
def rm_D_isNumber : Room := { frames := 1, cells := 0, slots := 0, locals := 22 }
theorem cy_D_isNumber : Cy y_D_isNumber c_D_isNumber 3 (some .boolean) 2 := ⟨lgm 645 (by decide +kernel) rfl, lgm 71 (by decide +kernel) rfl, by decide +kernel, by decide +kernel⟩
theorem im_D_isNumber : Cond.instanceMethod y_D_isNumber ∈ lg := lgm 644 (by decide +kernel) rfl
theorem se_D_isNumber : Cond.selects y_D_isNumber.cls y_D_isNumber y_D_isNumber ∈ lg := lgm 13 (by decide +kernel) rfl
def e_D_isNumber : List Ent := [
  (0, .aload_n 0, 1, 1, .null, 0, 0, 0),
  (1, .getfield 29, 3, 4, .null, 1, 2, 180),
  (4, .iconst 2, 1, 5, .int 2, 0, 0, 0),
  (5, .if_icmp .ne 19, 3, 24, .null, 0, 0, 0),
  (8, .aload_n 0, 1, 9, .null, 0, 0, 0),
  (9, .getfield 95, 3, 12, .null, 1, 5, 183),
  (12, .iload_n 1, 1, 13, .null, 0, 0, 0),
  (13, .iload_n 2, 1, 14, .null, 0, 0, 0),
  (14, .invokestatic 115, 3, 17, .null, 0, 0, 0),
  (17, .ifCond .eq 7, 3, 24, .null, 0, 0, 0),
  (20, .iconst 1, 1, 21, .int 1, 0, 0, 0),
  (21, .goto 4, 3, 25, .null, 0, 0, 0),
  (24, .iconst 0, 1, 25, .int 0, 0, 0, 0),
  (25, .ireturn, 1, 26, .null, 0, 0, 0)]
set_option maxRecDepth 100000 in
theorem ek_D_isNumber : e_D_isNumber.all (eok 1 c_D_isNumber) = true := by decide +kernel
def F_D_isNumber_25 (y0 : Int32) (w : A_W) : Option (Int32 × A_W) :=
  (bz y0).bind fun b1 =>
  some (b1, w)
def F_D_isNumber_24 (w : A_W) : Option (Int32 × A_W) :=
  F_D_isNumber_25 0 w
def F_D_isNumber_0 (t : Nat) (x1 : Int32) (x2 : Int32) (w : A_W) : Option (Int32 × A_W) :=
  (gi w t 1 2).bind fun v1 =>
  if v1 = 2 then
    (gi w t 1 5).bind fun v3 =>
    (F_K_within v3 x1 x2 w).bind fun p4 =>
    if p4.1 = 0 then
      F_D_isNumber_24 p4.2
    else
      F_D_isNumber_25 1 p4.2
  else
    F_D_isNumber_24 w
set_option maxHeartbeats 4000000 in
set_option maxRecDepth 100000 in
theorem s_D_isNumber_25 {G : Gx} {X : Cx} {res : Int32 × A_W} (K : Ok G X 1 c_D_isNumber 3 (some .boolean) rm_D_isNumber) (hQ : QQ G X (some (.int res.1)) res.2 0 0) (y0 : Int32) (w : A_W) (h : F_D_isNumber_25 y0 w = some res) : Sm G X w 0 0 [none, none, none] [.int y0] 25 := by
  unfold F_D_isNumber_25 at h
  obtain ⟨b1, e_b1, h⟩ := Option.bind_eq_some_iff.mp h
  obtain rfl := Option.some.inj h
  exact Sm_retz K e_b1 hQ (eok_i (eo ek_D_isNumber (i := 13) rfl) rfl)
set_option maxHeartbeats 4000000 in
set_option maxRecDepth 100000 in
theorem s_D_isNumber_24 {G : Gx} {X : Cx} {res : Int32 × A_W} (K : Ok G X 1 c_D_isNumber 3 (some .boolean) rm_D_isNumber) (hQ : QQ G X (some (.int res.1)) res.2 0 0) (w : A_W) (h : F_D_isNumber_24 w = some res) : Sm G X w 0 0 [none, none, none] [] 24 := by
  unfold F_D_isNumber_24 at h
  refine Sm_run K ek_D_isNumber 12 1 rfl ?_
  exact Sm_le (leR_n (leR_n (leR_n leR_nil))) (s_D_isNumber_25 K hQ _ _ h)
set_option maxHeartbeats 4000000 in
set_option maxRecDepth 100000 in
theorem s_D_isNumber_0 {G : Gx} {X : Cx} {res : Int32 × A_W} (K : Ok G X 1 c_D_isNumber 3 (some .boolean) rm_D_isNumber) (hQ : QQ G X (some (.int res.1)) res.2 0 0) (t : Nat) (x1 : Int32) (x2 : Int32) (w : A_W) (h : F_D_isNumber_0 t x1 x2 w = some res) : Sm G X w 0 0 [some (.ref t), some (.int x1), some (.int x2)] [] 0 := by
  unfold F_D_isNumber_0 at h
  refine Sm_run K ek_D_isNumber 0 1 rfl ?_
  obtain ⟨v1, e_v1, h⟩ := Option.bind_eq_some_iff.mp h
  refine Sm_gi K (eo ek_D_isNumber (i := 1) rfl) e_v1 ?_
  refine Sm_run K ek_D_isNumber 2 1 rfl ?_
  refine Sm_ic_ne K (eo ek_D_isNumber (i := 3) rfl) (fun c2 => ?_) (fun c2 => ?_)
  · rw [if_neg c2] at h
    exact Sm_le (leR_n (leR_n (leR_n leR_nil))) (s_D_isNumber_24 K hQ _ h)
  · rw [if_pos c2] at h
    refine Sm_run K ek_D_isNumber 4 1 rfl ?_
    obtain ⟨v3, e_v3, h⟩ := Option.bind_eq_some_iff.mp h
    refine Sm_gi K (eo ek_D_isNumber (i := 5) rfl) e_v3 ?_
    refine Sm_run K ek_D_isNumber 6 2 rfl ?_
    obtain ⟨p4, e_p4, h⟩ := Option.bind_eq_some_iff.mp h
    refine Sm_callSN K (host := "EveningCloak") (eok_i (eo ek_D_isNumber (i := 8) rfl) rfl) cy_K_within st_K_within (by decide +kernel) ⟨Nat.le_of_ble_eq_true rfl, Nat.le_of_ble_eq_true rfl⟩ (as := [.int v3, .int x1, .int x2]) (st := []) rfl rfl rfl (Nat.le_of_ble_eq_true rfl) ⟨Nat.le_of_ble_eq_true rfl, Nat.le_of_ble_eq_true rfl⟩ (cn_K_within e_p4) ?_
    refine Sm_eq (st1 := .int p4.1 :: []) (nc1 := 0) (ns1 := 0) rfl rfl rfl ?_
    refine Sm_if_eq K (eo ek_D_isNumber (i := 9) rfl) (fun c5 => ?_) (fun c5 => ?_)
    · rw [if_pos c5] at h
      exact Sm_le (leR_n (leR_n (leR_n leR_nil))) (s_D_isNumber_24 K hQ _ h)
    · rw [if_neg c5] at h
      refine Sm_run K ek_D_isNumber 10 2 rfl ?_
      exact Sm_le (leR_n (leR_n (leR_n leR_nil))) (s_D_isNumber_25 K hQ _ _ h)
def F_D_isNumber (t : Nat) (x1 : Int32) (x2 : Int32) (w : A_W) : Option (Int32 × A_W) := F_D_isNumber_0 t x1 x2 w
theorem cn_D_isNumber {G : Gx} {t : Nat} {x1 : Int32} {x2 : Int32} {w : A_W} {res : Int32 × A_W} (h : F_D_isNumber t x1 x2 w = some res) : Cn G y_D_isNumber c_D_isNumber 3 (some .boolean) rm_D_isNumber [.ref t, .int x1, .int x2] w (some (.int res.1)) res.2 :=
  Cn_of (own := 1) cy_D_isNumber rfl rfl (Nat.le_of_ble_eq_true rfl) rfl (fun X K _ hQ => Sm_le (leR_s (leR_s (leR_s leR_nil))) (s_D_isNumber_0 K hQ _ _ _ _ h))
/-! EveningCloak$Reader.readGirl(LEveningCloak$Room;)Z -/
abbrev c_D_readGirl : ByteArray := prog_2_method_7_code
def y_D_readGirl : MethodName := ⟨"EveningCloak$Reader", "readGirl", "(LEveningCloak$Room;)Z"⟩
def rm_D_readGirl : Room := { frames := 5, cells := 0, slots := 0, locals := 107 }
theorem cy_D_readGirl : Cy y_D_readGirl c_D_readGirl 3 (some .boolean) 1 := ⟨lgm 639 (by decide +kernel) rfl, lgm 71 (by decide +kernel) rfl, by decide +kernel, by decide +kernel⟩
theorem im_D_readGirl : Cond.instanceMethod y_D_readGirl ∈ lg := lgm 638 (by decide +kernel) rfl
theorem se_D_readGirl : Cond.selects y_D_readGirl.cls y_D_readGirl y_D_readGirl ∈ lg := lgm 12 (by decide +kernel) rfl
def e_D_readGirl : List Ent := [
  (0, .aload_n 1, 1, 1, .null, 0, 0, 0),
  (1, .getfield 98, 3, 4, .null, 2, 4, 109),
  (4, .bipush 6, 2, 6, .int 6, 0, 0, 0),
  (6, .if_icmp .lt 5, 3, 11, .null, 0, 0, 0),
  (9, .iconst 0, 1, 10, .int 0, 0, 0, 0),
  (10, .ireturn, 1, 11, .null, 0, 0, 0),
  (11, .aload_n 1, 1, 12, .null, 0, 0, 0),
  (12, .bipush 50, 2, 14, .int 50, 0, 0, 0),
  (14, .invokevirtual 101, 3, 17, .null, 0, 0, 0),
  (17, .istore_n 2, 1, 18, .null, 0, 0, 0),
  (18, .aload_n 0, 1, 19, .null, 0, 0, 0),
  (19, .invokevirtual 22, 3, 22, .null, 0, 0, 0),
  (22, .aload_n 0, 1, 23, .null, 0, 0, 0),
  (23, .ldc 105, 2, 25, .ref (sA 1), 0, 1, 0),
  (25, .invokevirtual 37, 3, 28, .null, 0, 0, 0),
  (28, .ifCond .eq 33, 3, 61, .null, 0, 0, 0),
  (31, .aload_n 0, 1, 32, .null, 0, 0, 0),
  (32, .invokevirtual 22, 3, 35, .null, 0, 0, 0),
  (35, .aload_n 0, 1, 36, .null, 0, 0, 0),
  (36, .iconst 1, 1, 37, .int 1, 0, 0, 0),
  (37, .bipush 99, 2, 39, .int 99, 0, 0, 0),
  (39, .invokevirtual 91, 3, 42, .null, 0, 0, 0),
  (42, .ifCond .ne 5, 3, 47, .null, 0, 0, 0),
  (45, .iconst 0, 1, 46, .int 0, 0, 0, 0),
  (46, .ireturn, 1, 47, .null, 0, 0, 0),
  (47, .aload_n 1, 1, 48, .null, 0, 0, 0),
  (48, .getfield 107, 3, 51, .null, 2, 13, 131),
  (51, .iload_n 2, 1, 52, .null, 0, 0, 0),
  (52, .aload_n 0, 1, 53, .null, 0, 0, 0),
  (53, .getfield 95, 3, 56, .null, 1, 5, 183),
  (56, .iastore, 1, 57, .null, 0, 0, 0),
  (57, .aload_n 0, 1, 58, .null, 0, 0, 0),
  (58, .invokevirtual 22, 3, 61, .null, 0, 0, 0),
  (61, .iconst 1, 1, 62, .int 1, 0, 0, 0),
  (62, .ireturn, 1, 63, .null, 0, 0, 0)]
set_option maxRecDepth 100000 in
theorem ek_D_readGirl : e_D_readGirl.all (eok 1 c_D_readGirl) = true := by decide +kernel
def F_D_readGirl_61 (w : A_W) : Option (Int32 × A_W) :=
  (bz 1).bind fun b1 =>
  some (b1, w)
def F_D_readGirl_0 (t : Nat) (x1 : Nat) (w : A_W) : Option (Int32 × A_W) :=
  (gi w x1 2 4).bind fun v1 =>
  if v1 < 6 then
    (ob w x1 2).bind fun o4 =>
    (F_R_addGirl x1 50 w).bind fun p3 =>
    (ob p3.2 t 1).bind fun o6 =>
    (F_D_step t p3.2).bind fun p5 =>
    (ob p5 t 1).bind fun o8 =>
    (F_D_isWord t (sA 1) p5).bind fun p7 =>
    if p7.1 = 0 then
      F_D_readGirl_61 p7.2
    else
      (ob p7.2 t 1).bind fun o11 =>
      (F_D_step t p7.2).bind fun p10 =>
      (ob p10 t 1).bind fun o13 =>
      (F_D_isNumber t 1 99 p10).bind fun p12 =>
      if p12.1 = 0 then
        (bz 0).bind fun b20 =>
        some (b20, p12.2)
      else
        (gr p12.2 x1 2 13).bind fun a15 =>
        (gi p12.2 t 1 5).bind fun v16 =>
        (wr p12.2 a15 p3.1 v16).bind fun w17 =>
        (ob w17 t 1).bind fun o19 =>
        (F_D_step t w17).bind fun p18 =>
        F_D_readGirl_61 p18
  else
    (bz 0).bind fun b21 =>
    some (b21, w)
set_option maxHeartbeats 4000000 in
set_option maxRecDepth 100000 in
theorem s_D_readGirl_61 {G : Gx} {X : Cx} {res : Int32 × A_W} (K : Ok G X 1 c_D_readGirl 3 (some .boolean) rm_D_readGirl) (hQ : QQ G X (some (.int res.1)) res.2 0 0) (w : A_W) (h : F_D_readGirl_61 w = some res) : Sm G X w 0 0 [none, none, none] [] 61 := by
  unfold F_D_readGirl_61 at h
  refine Sm_run K ek_D_readGirl 33 1 rfl ?_
  obtain ⟨b1, e_b1, h⟩ := Option.bind_eq_some_iff.mp h
  obtain rfl := Option.some.inj h
  exact Sm_retz K e_b1 hQ (eok_i (eo ek_D_readGirl (i := 34) rfl) rfl)
set_option maxHeartbeats 4000000 in
set_option maxRecDepth 100000 in
theorem s_D_readGirl_0 {G : Gx} {X : Cx} {res : Int32 × A_W} (K : Ok G X 1 c_D_readGirl 3 (some .boolean) rm_D_readGirl) (hQ : QQ G X (some (.int res.1)) res.2 0 0) (t : Nat) (x1 : Nat) (w : A_W) (h : F_D_readGirl_0 t x1 w = some res) : Sm G X w 0 0 [some (.ref t), some (.ref x1), none] [] 0 := by
  unfold F_D_readGirl_0 at h
  refine Sm_run K ek_D_readGirl 0 1 rfl ?_
  obtain ⟨v1, e_v1, h⟩ := Option.bind_eq_some_iff.mp h
  refine Sm_gi K (eo ek_D_readGirl (i := 1) rfl) e_v1 ?_
  refine Sm_run K ek_D_readGirl 2 1 rfl ?_
  refine Sm_ic_lt K (eo ek_D_readGirl (i := 3) rfl) (fun c2 => ?_) (fun c2 => ?_)
  · rw [if_pos c2] at h
    refine Sm_run K ek_D_readGirl 6 2 rfl ?_
    obtain ⟨o4, e_o4, h⟩ := Option.bind_eq_some_iff.mp h
    obtain ⟨p3, e_p3, h⟩ := Option.bind_eq_some_iff.mp h
    refine Sm_callV K (eok_i (eo ek_D_readGirl (i := 8) rfl) rfl) cy_R_addGirl im_R_addGirl se_R_addGirl (lgm 640 (by decide +kernel) rfl) ⟨Nat.le_of_ble_eq_true rfl, Nat.le_of_ble_eq_true rfl⟩ (as := [.int 50]) (b := x1) (st := []) (ob_e e_o4) (by decide) rfl rfl rfl rfl (Nat.le_of_ble_eq_true rfl) ⟨Nat.le_of_ble_eq_true rfl, Nat.le_of_ble_eq_true rfl⟩ (cn_R_addGirl e_p3) ?_
    refine Sm_eq (st1 := .int p3.1 :: []) (nc1 := 0) (ns1 := 0) rfl rfl rfl ?_
    refine Sm_run K ek_D_readGirl 9 2 rfl ?_
    obtain ⟨o6, e_o6, h⟩ := Option.bind_eq_some_iff.mp h
    obtain ⟨p5, e_p5, h⟩ := Option.bind_eq_some_iff.mp h
    refine Sm_callV K (eok_i (eo ek_D_readGirl (i := 11) rfl) rfl) cy_D_step im_D_step se_D_step (lgm 568 (by decide +kernel) rfl) ⟨Nat.le_of_ble_eq_true rfl, Nat.le_of_ble_eq_true rfl⟩ (as := []) (b := t) (st := []) (ob_e e_o6) (by decide) rfl rfl rfl rfl (Nat.le_of_ble_eq_true rfl) ⟨Nat.le_of_ble_eq_true rfl, Nat.le_of_ble_eq_true rfl⟩ (cn_D_step e_p5) ?_
    refine Sm_eq (st1 := []) (nc1 := 0) (ns1 := 0) rfl rfl rfl ?_
    refine Sm_run K ek_D_readGirl 12 2 rfl ?_
    obtain ⟨o8, e_o8, h⟩ := Option.bind_eq_some_iff.mp h
    obtain ⟨p7, e_p7, h⟩ := Option.bind_eq_some_iff.mp h
    refine Sm_callV K (eok_i (eo ek_D_readGirl (i := 14) rfl) rfl) cy_D_isWord im_D_isWord se_D_isWord (lgm 584 (by decide +kernel) rfl) ⟨Nat.le_of_ble_eq_true rfl, Nat.le_of_ble_eq_true rfl⟩ (as := [.ref (sA 1)]) (b := t) (st := []) (ob_e e_o8) (by decide) rfl rfl rfl rfl (Nat.le_of_ble_eq_true rfl) ⟨Nat.le_of_ble_eq_true rfl, Nat.le_of_ble_eq_true rfl⟩ (cn_D_isWord e_p7) ?_
    refine Sm_eq (st1 := .int p7.1 :: []) (nc1 := 0) (ns1 := 0) rfl rfl rfl ?_
    refine Sm_if_eq K (eo ek_D_readGirl (i := 15) rfl) (fun c9 => ?_) (fun c9 => ?_)
    · rw [if_pos c9] at h
      exact Sm_le (leR_n (leR_n (leR_n leR_nil))) (s_D_readGirl_61 K hQ _ h)
    · rw [if_neg c9] at h
      refine Sm_run K ek_D_readGirl 16 1 rfl ?_
      obtain ⟨o11, e_o11, h⟩ := Option.bind_eq_some_iff.mp h
      obtain ⟨p10, e_p10, h⟩ := Option.bind_eq_some_iff.mp h
      refine Sm_callV K (eok_i (eo ek_D_readGirl (i := 17) rfl) rfl) cy_D_step im_D_step se_D_step (lgm 568 (by decide +kernel) rfl) ⟨Nat.le_of_ble_eq_true rfl, Nat.le_of_ble_eq_true rfl⟩ (as := []) (b := t) (st := []) (ob_e e_o11) (by decide) rfl rfl rfl rfl (Nat.le_of_ble_eq_true rfl) ⟨Nat.le_of_ble_eq_true rfl, Nat.le_of_ble_eq_true rfl⟩ (cn_D_step e_p10) ?_
      refine Sm_eq (st1 := []) (nc1 := 0) (ns1 := 0) rfl rfl rfl ?_
      refine Sm_run K ek_D_readGirl 18 3 rfl ?_
      obtain ⟨o13, e_o13, h⟩ := Option.bind_eq_some_iff.mp h
      obtain ⟨p12, e_p12, h⟩ := Option.bind_eq_some_iff.mp h
      refine Sm_callV K (eok_i (eo ek_D_readGirl (i := 21) rfl) rfl) cy_D_isNumber im_D_isNumber se_D_isNumber (lgm 642 (by decide +kernel) rfl) ⟨Nat.le_of_ble_eq_true rfl, Nat.le_of_ble_eq_true rfl⟩ (as := [.int 1, .int 99]) (b := t) (st := []) (ob_e e_o13) (by decide) rfl rfl rfl rfl (Nat.le_of_ble_eq_true rfl) ⟨Nat.le_of_ble_eq_true rfl, Nat.le_of_ble_eq_true rfl⟩ (cn_D_isNumber e_p12) ?_
      refine Sm_eq (st1 := .int p12.1 :: []) (nc1 := 0) (ns1 := 0) rfl rfl rfl ?_
      refine Sm_if_ne K (eo ek_D_readGirl (i := 22) rfl) (fun c14 => ?_) (fun c14 => ?_)
      · rw [if_neg c14] at h
        refine Sm_run K ek_D_readGirl 25 1 rfl ?_
        obtain ⟨a15, e_a15, h⟩ := Option.bind_eq_some_iff.mp h
        refine Sm_gr K (eo ek_D_readGirl (i := 26) rfl) e_a15 ?_
        refine Sm_run K ek_D_readGirl 27 2 rfl ?_
        obtain ⟨v16, e_v16, h⟩ := Option.bind_eq_some_iff.mp h
        refine Sm_gi K (eo ek_D_readGirl (i := 29) rfl) e_v16 ?_
        obtain ⟨w17, e_w17, h⟩ := Option.bind_eq_some_iff.mp h
        refine Sm_wr K (eok_i (eo ek_D_readGirl (i := 30) rfl) rfl) e_w17 ?_
        refine Sm_run K ek_D_readGirl 31 1 rfl ?_
        obtain ⟨o19, e_o19, h⟩ := Option.bind_eq_some_iff.mp h
        obtain ⟨p18, e_p18, h⟩ := Option.bind_eq_some_iff.mp h
        refine Sm_callV K (eok_i (eo ek_D_readGirl (i := 32) rfl) rfl) cy_D_step im_D_step se_D_step (lgm 568 (by decide +kernel) rfl) ⟨Nat.le_of_ble_eq_true rfl, Nat.le_of_ble_eq_true rfl⟩ (as := []) (b := t) (st := []) (ob_e e_o19) (by decide) rfl rfl rfl rfl (Nat.le_of_ble_eq_true rfl) ⟨Nat.le_of_ble_eq_true rfl, Nat.le_of_ble_eq_true rfl⟩ (cn_D_step e_p18) ?_
        refine Sm_eq (st1 := []) (nc1 := 0) (ns1 := 0) rfl rfl rfl ?_
        exact Sm_le (leR_n (leR_n (leR_n leR_nil))) (s_D_readGirl_61 K hQ _ h)
      · rw [if_pos c14] at h
        refine Sm_run K ek_D_readGirl 23 1 rfl ?_
        obtain ⟨b20, e_b20, h⟩ := Option.bind_eq_some_iff.mp h
        obtain rfl := Option.some.inj h
        exact Sm_retz K e_b20 hQ (eok_i (eo ek_D_readGirl (i := 24) rfl) rfl)
  · rw [if_neg c2] at h
    refine Sm_run K ek_D_readGirl 4 1 rfl ?_
    obtain ⟨b21, e_b21, h⟩ := Option.bind_eq_some_iff.mp h
    obtain rfl := Option.some.inj h
    exact Sm_retz K e_b21 hQ (eok_i (eo ek_D_readGirl (i := 5) rfl) rfl)
def F_D_readGirl (t : Nat) (x1 : Nat) (w : A_W) : Option (Int32 × A_W) := F_D_readGirl_0 t x1 w
theorem cn_D_readGirl {G : Gx} {t : Nat} {x1 : Nat} {w : A_W} {res : Int32 × A_W} (h : F_D_readGirl t x1 w = some res) : Cn G y_D_readGirl c_D_readGirl 3 (some .boolean) rm_D_readGirl [.ref t, .ref x1] w (some (.int res.1)) res.2 :=
  Cn_of (own := 1) cy_D_readGirl rfl rfl (Nat.le_of_ble_eq_true rfl) rfl (fun X K _ hQ => Sm_le (leR_s (leR_s (leR_n leR_nil))) (s_D_readGirl_0 K hQ _ _ _ h))
/-! EveningCloak$Reader.readStand(LEveningCloak$Room;)Z -/
abbrev c_D_readStand : ByteArray := prog_2_method_8_code
def y_D_readStand : MethodName := ⟨"EveningCloak$Reader", "readStand", "(LEveningCloak$Room;)Z"⟩
def rm_D_readStand : Room := { frames := 2, cells := 0, slots := 0, locals := 44 }
theorem cy_D_readStand : Cy y_D_readStand c_D_readStand 4 (some .boolean) 1 := ⟨lgm 651 (by decide +kernel) rfl, lgm 71 (by decide +kernel) rfl, by decide +kernel, by decide +kernel⟩
theorem im_D_readStand : Cond.instanceMethod y_D_readStand ∈ lg := lgm 650 (by decide +kernel) rfl
theorem se_D_readStand : Cond.selects y_D_readStand.cls y_D_readStand y_D_readStand ∈ lg := lgm 14 (by decide +kernel) rfl
def e_D_readStand : List Ent := [
  (0, .aload_n 0, 1, 1, .null, 0, 0, 0),
  (1, .invokevirtual 22, 3, 4, .null, 0, 0, 0),
  (4, .aload_n 0, 1, 5, .null, 0, 0, 0),
  (5, .iconst 0, 1, 6, .int 0, 0, 0, 0),
  (6, .iconst 5, 1, 7, .int 5, 0, 0, 0),
  (7, .invokevirtual 91, 3, 10, .null, 0, 0, 0),
  (10, .ifCond .ne 5, 3, 15, .null, 0, 0, 0),
  (13, .iconst 0, 1, 14, .int 0, 0, 0, 0),
  (14, .ireturn, 1, 15, .null, 0, 0, 0),
  (15, .aload_n 0, 1, 16, .null, 0, 0, 0),
  (16, .getfield 95, 3, 19, .null, 1, 5, 183),
  (19, .istore_n 2, 1, 20, .null, 0, 0, 0),
  (20, .aload_n 0, 1, 21, .null, 0, 0, 0),
  (21, .invokevirtual 22, 3, 24, .null, 0, 0, 0),
  (24, .aload_n 0, 1, 25, .null, 0, 0, 0),
  (25, .iconst 0, 1, 26, .int 0, 0, 0, 0),
  (26, .iconst 5, 1, 27, .int 5, 0, 0, 0),
  (27, .invokevirtual 91, 3, 30, .null, 0, 0, 0),
  (30, .ifCond .ne 5, 3, 35, .null, 0, 0, 0),
  (33, .iconst 0, 1, 34, .int 0, 0, 0, 0),
  (34, .ireturn, 1, 35, .null, 0, 0, 0),
  (35, .aload_n 0, 1, 36, .null, 0, 0, 0),
  (36, .getfield 95, 3, 39, .null, 1, 5, 183),
  (39, .istore_n 3, 1, 40, .null, 0, 0, 0),
  (40, .aload_n 0, 1, 41, .null, 0, 0, 0),
  (41, .invokevirtual 22, 3, 44, .null, 0, 0, 0),
  (44, .aload_n 0, 1, 45, .null, 0, 0, 0),
  (45, .iconst 0, 1, 46, .int 0, 0, 0, 0),
  (46, .bipush 15, 2, 48, .int 15, 0, 0, 0),
  (48, .invokevirtual 91, 3, 51, .null, 0, 0, 0),
  (51, .ifCond .ne 5, 3, 56, .null, 0, 0, 0),
  (54, .iconst 0, 1, 55, .int 0, 0, 0, 0),
  (55, .ireturn, 1, 56, .null, 0, 0, 0),
  (56, .aload_n 1, 1, 57, .null, 0, 0, 0),
  (57, .getfield 109, 3, 60, .null, 2, 5, 112),
  (60, .iload_n 2, 1, 61, .null, 0, 0, 0),
  (61, .iload_n 3, 1, 62, .null, 0, 0, 0),
  (62, .aload_n 0, 1, 63, .null, 0, 0, 0),
  (63, .getfield 95, 3, 66, .null, 1, 5, 183),
  (66, .invokestatic 112, 3, 69, .null, 0, 0, 0),
  (69, .iastore, 1, 70, .null, 0, 0, 0),
  (70, .aload_n 0, 1, 71, .null, 0, 0, 0),
  (71, .invokevirtual 22, 3, 74, .null, 0, 0, 0),
  (74, .iconst 1, 1, 75, .int 1, 0, 0, 0),
  (75, .ireturn, 1, 76, .null, 0, 0, 0)]
set_option maxRecDepth 100000 in
theorem ek_D_readStand : e_D_readStand.all (eok 1 c_D_readStand) = true := by decide +kernel
def F_D_readStand_0 (t : Nat) (x1 : Nat) (w : A_W) : Option (Int32 × A_W) :=
  (ob w t 1).bind fun o2 =>
  (F_D_step t w).bind fun p1 =>
  (ob p1 t 1).bind fun o4 =>
  (F_D_isNumber t 0 5 p1).bind fun p3 =>
  if p3.1 = 0 then
    (bz 0).bind fun b27 =>
    some (b27, p3.2)
  else
    (gi p3.2 t 1 5).bind fun v6 =>
    (ob p3.2 t 1).bind fun o8 =>
    (F_D_step t p3.2).bind fun p7 =>
    (ob p7 t 1).bind fun o10 =>
    (F_D_isNumber t 0 5 p7).bind fun p9 =>
    if p9.1 = 0 then
      (bz 0).bind fun b26 =>
      some (b26, p9.2)
    else
      (gi p9.2 t 1 5).bind fun v12 =>
      (ob p9.2 t 1).bind fun o14 =>
      (F_D_step t p9.2).bind fun p13 =>
      (ob p13 t 1).bind fun o16 =>
      (F_D_isNumber t 0 15 p13).bind fun p15 =>
      if p15.1 = 0 then
        (bz 0).bind fun b25 =>
        some (b25, p15.2)
      else
        (gr p15.2 x1 2 5).bind fun a18 =>
        (gi p15.2 t 1 5).bind fun v19 =>
        (F_K_standOf v12 v19 p15.2).bind fun p20 =>
        (wr p20.2 a18 v6 p20.1).bind fun w21 =>
        (ob w21 t 1).bind fun o23 =>
        (F_D_step t w21).bind fun p22 =>
        (bz 1).bind fun b24 =>
        some (b24, p22)
set_option maxHeartbeats 4000000 in
set_option maxRecDepth 100000 in
theorem s_D_readStand_0 {G : Gx} {X : Cx} {res : Int32 × A_W} (K : Ok G X 1 c_D_readStand 4 (some .boolean) rm_D_readStand) (hQ : QQ G X (some (.int res.1)) res.2 0 0) (t : Nat) (x1 : Nat) (w : A_W) (h : F_D_readStand_0 t x1 w = some res) : Sm G X w 0 0 [some (.ref t), some (.ref x1), none, none] [] 0 := by
  unfold F_D_readStand_0 at h
  refine Sm_run K ek_D_readStand 0 1 rfl ?_
  obtain ⟨o2, e_o2, h⟩ := Option.bind_eq_some_iff.mp h
  obtain ⟨p1, e_p1, h⟩ := Option.bind_eq_some_iff.mp h
  refine Sm_callV K (eok_i (eo ek_D_readStand (i := 1) rfl) rfl) cy_D_step im_D_step se_D_step (lgm 568 (by decide +kernel) rfl) ⟨Nat.le_of_ble_eq_true rfl, Nat.le_of_ble_eq_true rfl⟩ (as := []) (b := t) (st := []) (ob_e e_o2) (by decide) rfl rfl rfl rfl (Nat.le_of_ble_eq_true rfl) ⟨Nat.le_of_ble_eq_true rfl, Nat.le_of_ble_eq_true rfl⟩ (cn_D_step e_p1) ?_
  refine Sm_eq (st1 := []) (nc1 := 0) (ns1 := 0) rfl rfl rfl ?_
  refine Sm_run K ek_D_readStand 2 3 rfl ?_
  obtain ⟨o4, e_o4, h⟩ := Option.bind_eq_some_iff.mp h
  obtain ⟨p3, e_p3, h⟩ := Option.bind_eq_some_iff.mp h
  refine Sm_callV K (eok_i (eo ek_D_readStand (i := 5) rfl) rfl) cy_D_isNumber im_D_isNumber se_D_isNumber (lgm 642 (by decide +kernel) rfl) ⟨Nat.le_of_ble_eq_true rfl, Nat.le_of_ble_eq_true rfl⟩ (as := [.int 0, .int 5]) (b := t) (st := []) (ob_e e_o4) (by decide) rfl rfl rfl rfl (Nat.le_of_ble_eq_true rfl) ⟨Nat.le_of_ble_eq_true rfl, Nat.le_of_ble_eq_true rfl⟩ (cn_D_isNumber e_p3) ?_
  refine Sm_eq (st1 := .int p3.1 :: []) (nc1 := 0) (ns1 := 0) rfl rfl rfl ?_
  refine Sm_if_ne K (eo ek_D_readStand (i := 6) rfl) (fun c5 => ?_) (fun c5 => ?_)
  · rw [if_neg c5] at h
    refine Sm_run K ek_D_readStand 9 1 rfl ?_
    obtain ⟨v6, e_v6, h⟩ := Option.bind_eq_some_iff.mp h
    refine Sm_gi K (eo ek_D_readStand (i := 10) rfl) e_v6 ?_
    refine Sm_run K ek_D_readStand 11 2 rfl ?_
    obtain ⟨o8, e_o8, h⟩ := Option.bind_eq_some_iff.mp h
    obtain ⟨p7, e_p7, h⟩ := Option.bind_eq_some_iff.mp h
    refine Sm_callV K (eok_i (eo ek_D_readStand (i := 13) rfl) rfl) cy_D_step im_D_step se_D_step (lgm 568 (by decide +kernel) rfl) ⟨Nat.le_of_ble_eq_true rfl, Nat.le_of_ble_eq_true rfl⟩ (as := []) (b := t) (st := []) (ob_e e_o8) (by decide) rfl rfl rfl rfl (Nat.le_of_ble_eq_true rfl) ⟨Nat.le_of_ble_eq_true rfl, Nat.le_of_ble_eq_true rfl⟩ (cn_D_step e_p7) ?_
    refine Sm_eq (st1 := []) (nc1 := 0) (ns1 := 0) rfl rfl rfl ?_
    refine Sm_run K ek_D_readStand 14 3 rfl ?_
    obtain ⟨o10, e_o10, h⟩ := Option.bind_eq_some_iff.mp h
    obtain ⟨p9, e_p9, h⟩ := Option.bind_eq_some_iff.mp h
    refine Sm_callV K (eok_i (eo ek_D_readStand (i := 17) rfl) rfl) cy_D_isNumber im_D_isNumber se_D_isNumber (lgm 642 (by decide +kernel) rfl) ⟨Nat.le_of_ble_eq_true rfl, Nat.le_of_ble_eq_true rfl⟩ (as := [.int 0, .int 5]) (b := t) (st := []) (ob_e e_o10) (by decide) rfl rfl rfl rfl (Nat.le_of_ble_eq_true rfl) ⟨Nat.le_of_ble_eq_true rfl, Nat.le_of_ble_eq_true rfl⟩ (cn_D_isNumber e_p9) ?_
    refine Sm_eq (st1 := .int p9.1 :: []) (nc1 := 0) (ns1 := 0) rfl rfl rfl ?_
    refine Sm_if_ne K (eo ek_D_readStand (i := 18) rfl) (fun c11 => ?_) (fun c11 => ?_)
    · rw [if_neg c11] at h
      refine Sm_run K ek_D_readStand 21 1 rfl ?_
      obtain ⟨v12, e_v12, h⟩ := Option.bind_eq_some_iff.mp h
      refine Sm_gi K (eo ek_D_readStand (i := 22) rfl) e_v12 ?_
      refine Sm_run K ek_D_readStand 23 2 rfl ?_
      obtain ⟨o14, e_o14, h⟩ := Option.bind_eq_some_iff.mp h
      obtain ⟨p13, e_p13, h⟩ := Option.bind_eq_some_iff.mp h
      refine Sm_callV K (eok_i (eo ek_D_readStand (i := 25) rfl) rfl) cy_D_step im_D_step se_D_step (lgm 568 (by decide +kernel) rfl) ⟨Nat.le_of_ble_eq_true rfl, Nat.le_of_ble_eq_true rfl⟩ (as := []) (b := t) (st := []) (ob_e e_o14) (by decide) rfl rfl rfl rfl (Nat.le_of_ble_eq_true rfl) ⟨Nat.le_of_ble_eq_true rfl, Nat.le_of_ble_eq_true rfl⟩ (cn_D_step e_p13) ?_
      refine Sm_eq (st1 := []) (nc1 := 0) (ns1 := 0) rfl rfl rfl ?_
      refine Sm_run K ek_D_readStand 26 3 rfl ?_
      obtain ⟨o16, e_o16, h⟩ := Option.bind_eq_some_iff.mp h
      obtain ⟨p15, e_p15, h⟩ := Option.bind_eq_some_iff.mp h
      refine Sm_callV K (eok_i (eo ek_D_readStand (i := 29) rfl) rfl) cy_D_isNumber im_D_isNumber se_D_isNumber (lgm 642 (by decide +kernel) rfl) ⟨Nat.le_of_ble_eq_true rfl, Nat.le_of_ble_eq_true rfl⟩ (as := [.int 0, .int 15]) (b := t) (st := []) (ob_e e_o16) (by decide) rfl rfl rfl rfl (Nat.le_of_ble_eq_true rfl) ⟨Nat.le_of_ble_eq_true rfl, Nat.le_of_ble_eq_true rfl⟩ (cn_D_isNumber e_p15) ?_
      refine Sm_eq (st1 := .int p15.1 :: []) (nc1 := 0) (ns1 := 0) rfl rfl rfl ?_
      refine Sm_if_ne K (eo ek_D_readStand (i := 30) rfl) (fun c17 => ?_) (fun c17 => ?_)
      · rw [if_neg c17] at h
        refine Sm_run K ek_D_readStand 33 1 rfl ?_
        obtain ⟨a18, e_a18, h⟩ := Option.bind_eq_some_iff.mp h
        refine Sm_gr K (eo ek_D_readStand (i := 34) rfl) e_a18 ?_
        refine Sm_run K ek_D_readStand 35 3 rfl ?_
        obtain ⟨v19, e_v19, h⟩ := Option.bind_eq_some_iff.mp h
        refine Sm_gi K (eo ek_D_readStand (i := 38) rfl) e_v19 ?_
        obtain ⟨p20, e_p20, h⟩ := Option.bind_eq_some_iff.mp h
        refine Sm_callSN K (host := "EveningCloak") (eok_i (eo ek_D_readStand (i := 39) rfl) rfl) cy_K_standOf st_K_standOf (by decide +kernel) ⟨Nat.le_of_ble_eq_true rfl, Nat.le_of_ble_eq_true rfl⟩ (as := [.int v12, .int v19]) (st := [.int v6, .ref a18]) rfl rfl rfl (Nat.le_of_ble_eq_true rfl) ⟨Nat.le_of_ble_eq_true rfl, Nat.le_of_ble_eq_true rfl⟩ (cn_K_standOf e_p20) ?_
        refine Sm_eq (st1 := .int p20.1 :: [.int v6, .ref a18]) (nc1 := 0) (ns1 := 0) rfl rfl rfl ?_
        obtain ⟨w21, e_w21, h⟩ := Option.bind_eq_some_iff.mp h
        refine Sm_wr K (eok_i (eo ek_D_readStand (i := 40) rfl) rfl) e_w21 ?_
        refine Sm_run K ek_D_readStand 41 1 rfl ?_
        obtain ⟨o23, e_o23, h⟩ := Option.bind_eq_some_iff.mp h
        obtain ⟨p22, e_p22, h⟩ := Option.bind_eq_some_iff.mp h
        refine Sm_callV K (eok_i (eo ek_D_readStand (i := 42) rfl) rfl) cy_D_step im_D_step se_D_step (lgm 568 (by decide +kernel) rfl) ⟨Nat.le_of_ble_eq_true rfl, Nat.le_of_ble_eq_true rfl⟩ (as := []) (b := t) (st := []) (ob_e e_o23) (by decide) rfl rfl rfl rfl (Nat.le_of_ble_eq_true rfl) ⟨Nat.le_of_ble_eq_true rfl, Nat.le_of_ble_eq_true rfl⟩ (cn_D_step e_p22) ?_
        refine Sm_eq (st1 := []) (nc1 := 0) (ns1 := 0) rfl rfl rfl ?_
        refine Sm_run K ek_D_readStand 43 1 rfl ?_
        obtain ⟨b24, e_b24, h⟩ := Option.bind_eq_some_iff.mp h
        obtain rfl := Option.some.inj h
        exact Sm_retz K e_b24 hQ (eok_i (eo ek_D_readStand (i := 44) rfl) rfl)
      · rw [if_pos c17] at h
        refine Sm_run K ek_D_readStand 31 1 rfl ?_
        obtain ⟨b25, e_b25, h⟩ := Option.bind_eq_some_iff.mp h
        obtain rfl := Option.some.inj h
        exact Sm_retz K e_b25 hQ (eok_i (eo ek_D_readStand (i := 32) rfl) rfl)
    · rw [if_pos c11] at h
      refine Sm_run K ek_D_readStand 19 1 rfl ?_
      obtain ⟨b26, e_b26, h⟩ := Option.bind_eq_some_iff.mp h
      obtain rfl := Option.some.inj h
      exact Sm_retz K e_b26 hQ (eok_i (eo ek_D_readStand (i := 20) rfl) rfl)
  · rw [if_pos c5] at h
    refine Sm_run K ek_D_readStand 7 1 rfl ?_
    obtain ⟨b27, e_b27, h⟩ := Option.bind_eq_some_iff.mp h
    obtain rfl := Option.some.inj h
    exact Sm_retz K e_b27 hQ (eok_i (eo ek_D_readStand (i := 8) rfl) rfl)
def F_D_readStand (t : Nat) (x1 : Nat) (w : A_W) : Option (Int32 × A_W) := F_D_readStand_0 t x1 w
theorem cn_D_readStand {G : Gx} {t : Nat} {x1 : Nat} {w : A_W} {res : Int32 × A_W} (h : F_D_readStand t x1 w = some res) : Cn G y_D_readStand c_D_readStand 4 (some .boolean) rm_D_readStand [.ref t, .ref x1] w (some (.int res.1)) res.2 :=
  Cn_of (own := 1) cy_D_readStand rfl rfl (Nat.le_of_ble_eq_true rfl) rfl (fun X K _ hQ => Sm_le (leR_s (leR_s (leR_n (leR_n leR_nil)))) (s_D_readStand_0 K hQ _ _ _ h))
/-! EveningCloak$Reader.kindWord(I)Ljava/lang/String; -/
abbrev c_D_kindWord : ByteArray := prog_2_method_14_code
def y_D_kindWord : MethodName := ⟨"EveningCloak$Reader", "kindWord", "(I)Ljava/lang/String;"⟩
def rm_D_kindWord : Room := { frames := 0, cells := 0, slots := 0, locals := 0 }
theorem cy_D_kindWord : Cy y_D_kindWord c_D_kindWord 1 (some (.object "java/lang/String")) 1 := ⟨lgm 655 (by decide +kernel) rfl, lgm 71 (by decide +kernel) rfl, by decide +kernel, by decide +kernel⟩
theorem st_D_kindWord : Cond.static y_D_kindWord ∈ lg := lgm 654 (by decide +kernel) rfl
def e_D_kindWord : List Ent := [
  (0, .iload_n 0, 1, 1, .null, 0, 0, 0),
  (1, .tableswitch 57 0 5 #[39, 42, 45, 48, 51, 54], 39, 40, .null, 0, 0, 0),
  (40, .ldc 141, 2, 42, .ref (sA 3), 0, 3, 0),
  (42, .areturn, 1, 43, .null, 0, 0, 0),
  (43, .ldc 143, 2, 45, .ref (sA 4), 0, 4, 0),
  (45, .areturn, 1, 46, .null, 0, 0, 0),
  (46, .ldc 145, 2, 48, .ref (sA 5), 0, 5, 0),
  (48, .areturn, 1, 49, .null, 0, 0, 0),
  (49, .ldc 147, 2, 51, .ref (sA 6), 0, 6, 0),
  (51, .areturn, 1, 52, .null, 0, 0, 0),
  (52, .ldc 149, 2, 54, .ref (sA 7), 0, 7, 0),
  (54, .areturn, 1, 55, .null, 0, 0, 0),
  (55, .ldc 151, 2, 57, .ref (sA 8), 0, 8, 0),
  (57, .areturn, 1, 58, .null, 0, 0, 0),
  (58, .ldc 153, 2, 60, .ref (sA 9), 0, 9, 0),
  (60, .areturn, 1, 61, .null, 0, 0, 0)]
set_option maxRecDepth 100000 in
theorem ek_D_kindWord : e_D_kindWord.all (eok 1 c_D_kindWord) = true := by decide +kernel
def F_D_kindWord_0 (x0 : Int32) (w : A_W) : Option (Nat × A_W) :=
  if x0 = 0 then
    some ((sA 3), w)
  else if x0 = 1 then
    some ((sA 4), w)
  else if x0 = 2 then
    some ((sA 5), w)
  else if x0 = 3 then
    some ((sA 6), w)
  else if x0 = 4 then
    some ((sA 7), w)
  else if x0 = 5 then
    some ((sA 8), w)
  else
    some ((sA 9), w)
set_option maxHeartbeats 4000000 in
set_option maxRecDepth 100000 in
theorem s_D_kindWord_0 {G : Gx} {X : Cx} {res : Nat × A_W} (K : Ok G X 1 c_D_kindWord 1 (some (.object "java/lang/String")) rm_D_kindWord) (hQ : QQ G X (some (.ref res.1)) res.2 0 0) (x0 : Int32) (w : A_W) (h : F_D_kindWord_0 x0 w = some res) : Sm G X w 0 0 [some (.int x0)] [] 0 := by
  unfold F_D_kindWord_0 at h
  refine Sm_run K ek_D_kindWord 0 1 rfl ?_
  refine Sm_tsw K (eok_d (eo ek_D_kindWord (i := 1) rfl)) [40, 43, 46, 49, 52, 55] 58 (by decide) (by decide) (by decide) (fun j hj hx => ?_) (fun hx => ?_)
  · have hj : j < 6 := hj
    rcases (show j = 0 ∨ j = 1 ∨ j = 2 ∨ j = 3 ∨ j = 4 ∨ j = 5 by omega) with rfl | rfl | rfl | rfl | rfl | rfl
    · have hc : x0 = 0 := Int32.toInt_inj.mp (hx.trans (by decide))
      rw [if_pos hc] at h
      refine Sm_pc (pc1 := 40) rfl ?_
      refine Sm_run K ek_D_kindWord 2 1 rfl ?_
      obtain rfl := Option.some.inj h
      exact Sm_reta K (by first | exact Or.inl ⟨_, rfl⟩ | exact Or.inr ⟨_, rfl⟩) hQ (eok_i (eo ek_D_kindWord (i := 3) rfl) rfl)
    · have hc : x0 = 1 := Int32.toInt_inj.mp (hx.trans (by decide))
      rw [if_neg (by rw [hc]; decide), if_pos hc] at h
      refine Sm_pc (pc1 := 43) rfl ?_
      refine Sm_run K ek_D_kindWord 4 1 rfl ?_
      obtain rfl := Option.some.inj h
      exact Sm_reta K (by first | exact Or.inl ⟨_, rfl⟩ | exact Or.inr ⟨_, rfl⟩) hQ (eok_i (eo ek_D_kindWord (i := 5) rfl) rfl)
    · have hc : x0 = 2 := Int32.toInt_inj.mp (hx.trans (by decide))
      rw [if_neg (by rw [hc]; decide), if_neg (by rw [hc]; decide), if_pos hc] at h
      refine Sm_pc (pc1 := 46) rfl ?_
      refine Sm_run K ek_D_kindWord 6 1 rfl ?_
      obtain rfl := Option.some.inj h
      exact Sm_reta K (by first | exact Or.inl ⟨_, rfl⟩ | exact Or.inr ⟨_, rfl⟩) hQ (eok_i (eo ek_D_kindWord (i := 7) rfl) rfl)
    · have hc : x0 = 3 := Int32.toInt_inj.mp (hx.trans (by decide))
      rw [if_neg (by rw [hc]; decide), if_neg (by rw [hc]; decide), if_neg (by rw [hc]; decide), if_pos hc] at h
      refine Sm_pc (pc1 := 49) rfl ?_
      refine Sm_run K ek_D_kindWord 8 1 rfl ?_
      obtain rfl := Option.some.inj h
      exact Sm_reta K (by first | exact Or.inl ⟨_, rfl⟩ | exact Or.inr ⟨_, rfl⟩) hQ (eok_i (eo ek_D_kindWord (i := 9) rfl) rfl)
    · have hc : x0 = 4 := Int32.toInt_inj.mp (hx.trans (by decide))
      rw [if_neg (by rw [hc]; decide), if_neg (by rw [hc]; decide), if_neg (by rw [hc]; decide), if_neg (by rw [hc]; decide), if_pos hc] at h
      refine Sm_pc (pc1 := 52) rfl ?_
      refine Sm_run K ek_D_kindWord 10 1 rfl ?_
      obtain rfl := Option.some.inj h
      exact Sm_reta K (by first | exact Or.inl ⟨_, rfl⟩ | exact Or.inr ⟨_, rfl⟩) hQ (eok_i (eo ek_D_kindWord (i := 11) rfl) rfl)
    · have hc : x0 = 5 := Int32.toInt_inj.mp (hx.trans (by decide))
      rw [if_neg (by rw [hc]; decide), if_neg (by rw [hc]; decide), if_neg (by rw [hc]; decide), if_neg (by rw [hc]; decide), if_neg (by rw [hc]; decide), if_pos hc] at h
      refine Sm_pc (pc1 := 55) rfl ?_
      refine Sm_run K ek_D_kindWord 12 1 rfl ?_
      obtain rfl := Option.some.inj h
      exact Sm_reta K (by first | exact Or.inl ⟨_, rfl⟩ | exact Or.inr ⟨_, rfl⟩) hQ (eok_i (eo ek_D_kindWord (i := 13) rfl) rfl)
  · rw [if_neg (fun hc => hx 0 (by decide) (by rw [hc]; decide)), if_neg (fun hc => hx 1 (by decide) (by rw [hc]; decide)), if_neg (fun hc => hx 2 (by decide) (by rw [hc]; decide)), if_neg (fun hc => hx 3 (by decide) (by rw [hc]; decide)), if_neg (fun hc => hx 4 (by decide) (by rw [hc]; decide)), if_neg (fun hc => hx 5 (by decide) (by rw [hc]; decide))] at h
    refine Sm_run K ek_D_kindWord 14 1 rfl ?_
    obtain rfl := Option.some.inj h
    exact Sm_reta K (by first | exact Or.inl ⟨_, rfl⟩ | exact Or.inr ⟨_, rfl⟩) hQ (eok_i (eo ek_D_kindWord (i := 15) rfl) rfl)
def F_D_kindWord (x0 : Int32) (w : A_W) : Option (Nat × A_W) := F_D_kindWord_0 x0 w
theorem cn_D_kindWord {G : Gx} {x0 : Int32} {w : A_W} {res : Nat × A_W} (h : F_D_kindWord x0 w = some res) : Cn G y_D_kindWord c_D_kindWord 1 (some (.object "java/lang/String")) rm_D_kindWord [.int x0] w (some (.ref res.1)) res.2 :=
  Cn_of (own := 1) cy_D_kindWord rfl rfl (Nat.le_of_ble_eq_true rfl) rfl (fun X K _ hQ => Sm_le (leR_s leR_nil) (s_D_kindWord_0 K hQ _ _ h))
/-! EveningCloak$Reader.readPart(Ljava/lang/String;[III)Z -/
abbrev c_D_readPart : ByteArray := prog_2_method_6_code
def y_D_readPart : MethodName := ⟨"EveningCloak$Reader", "readPart", "(Ljava/lang/String;[III)Z"⟩
def rm_D_readPart : Room := { frames := 5, cells := 0, slots := 0, locals := 107 }
theorem cy_D_readPart : Cy y_D_readPart c_D_readPart 5 (some .boolean) 4 := ⟨lgm 672 (by decide +kernel) rfl, lgm 71 (by decide +kernel) rfl, by decide +kernel, by decide +kernel⟩
theorem im_D_readPart : Cond.instanceMethod y_D_readPart ∈ lg := lgm 671 (by decide +kernel) rfl
theorem se_D_readPart : Cond.selects y_D_readPart.cls y_D_readPart y_D_readPart ∈ lg := lgm 16 (by decide +kernel) rfl
def e_D_readPart : List Ent := [
  (0, .aload_n 0, 1, 1, .null, 0, 0, 0),
  (1, .aload_n 1, 1, 2, .null, 0, 0, 0),
  (2, .invokevirtual 37, 3, 5, .null, 0, 0, 0),
  (5, .ifCond .ne 5, 3, 10, .null, 0, 0, 0),
  (8, .iconst 1, 1, 9, .int 1, 0, 0, 0),
  (9, .ireturn, 1, 10, .null, 0, 0, 0),
  (10, .aload_n 0, 1, 11, .null, 0, 0, 0),
  (11, .invokevirtual 22, 3, 14, .null, 0, 0, 0),
  (14, .aload_n 0, 1, 15, .null, 0, 0, 0),
  (15, .iconst 0, 1, 16, .int 0, 0, 0, 0),
  (16, .iload 4, 2, 18, .null, 0, 0, 0),
  (18, .invokevirtual 91, 3, 21, .null, 0, 0, 0),
  (21, .ifCond .ne 5, 3, 26, .null, 0, 0, 0),
  (24, .iconst 0, 1, 25, .int 0, 0, 0, 0),
  (25, .ireturn, 1, 26, .null, 0, 0, 0),
  (26, .aload_n 2, 1, 27, .null, 0, 0, 0),
  (27, .iload_n 3, 1, 28, .null, 0, 0, 0),
  (28, .aload_n 0, 1, 29, .null, 0, 0, 0),
  (29, .getfield 95, 3, 32, .null, 1, 5, 183),
  (32, .iastore, 1, 33, .null, 0, 0, 0),
  (33, .aload_n 0, 1, 34, .null, 0, 0, 0),
  (34, .invokevirtual 22, 3, 37, .null, 0, 0, 0),
  (37, .iconst 1, 1, 38, .int 1, 0, 0, 0),
  (38, .ireturn, 1, 39, .null, 0, 0, 0)]
set_option maxRecDepth 100000 in
theorem ek_D_readPart : e_D_readPart.all (eok 1 c_D_readPart) = true := by decide +kernel
def F_D_readPart_0 (t : Nat) (x1 : Nat) (x2 : Nat) (x3 : Int32) (x4 : Int32) (w : A_W) : Option (Int32 × A_W) :=
  (ob w t 1).bind fun o2 =>
  (F_D_isWord t x1 w).bind fun p1 =>
  if p1.1 = 0 then
    (bz 1).bind fun b15 =>
    some (b15, p1.2)
  else
    (ob p1.2 t 1).bind fun o5 =>
    (F_D_step t p1.2).bind fun p4 =>
    (ob p4 t 1).bind fun o7 =>
    (F_D_isNumber t 0 x4 p4).bind fun p6 =>
    if p6.1 = 0 then
      (bz 0).bind fun b14 =>
      some (b14, p6.2)
    else
      (gi p6.2 t 1 5).bind fun v9 =>
      (wr p6.2 x2 x3 v9).bind fun w10 =>
      (ob w10 t 1).bind fun o12 =>
      (F_D_step t w10).bind fun p11 =>
      (bz 1).bind fun b13 =>
      some (b13, p11)
set_option maxHeartbeats 4000000 in
set_option maxRecDepth 100000 in
theorem s_D_readPart_0 {G : Gx} {X : Cx} {res : Int32 × A_W} (K : Ok G X 1 c_D_readPart 5 (some .boolean) rm_D_readPart) (hQ : QQ G X (some (.int res.1)) res.2 0 0) (t : Nat) (x1 : Nat) (x2 : Nat) (x3 : Int32) (x4 : Int32) (w : A_W) (h : F_D_readPart_0 t x1 x2 x3 x4 w = some res) : Sm G X w 0 0 [some (.ref t), some (.ref x1), some (.ref x2), some (.int x3), some (.int x4)] [] 0 := by
  unfold F_D_readPart_0 at h
  refine Sm_run K ek_D_readPart 0 2 rfl ?_
  obtain ⟨o2, e_o2, h⟩ := Option.bind_eq_some_iff.mp h
  obtain ⟨p1, e_p1, h⟩ := Option.bind_eq_some_iff.mp h
  refine Sm_callV K (eok_i (eo ek_D_readPart (i := 2) rfl) rfl) cy_D_isWord im_D_isWord se_D_isWord (lgm 584 (by decide +kernel) rfl) ⟨Nat.le_of_ble_eq_true rfl, Nat.le_of_ble_eq_true rfl⟩ (as := [.ref x1]) (b := t) (st := []) (ob_e e_o2) (by decide) rfl rfl rfl rfl (Nat.le_of_ble_eq_true rfl) ⟨Nat.le_of_ble_eq_true rfl, Nat.le_of_ble_eq_true rfl⟩ (cn_D_isWord e_p1) ?_
  refine Sm_eq (st1 := .int p1.1 :: []) (nc1 := 0) (ns1 := 0) rfl rfl rfl ?_
  refine Sm_if_ne K (eo ek_D_readPart (i := 3) rfl) (fun c3 => ?_) (fun c3 => ?_)
  · rw [if_neg c3] at h
    refine Sm_run K ek_D_readPart 6 1 rfl ?_
    obtain ⟨o5, e_o5, h⟩ := Option.bind_eq_some_iff.mp h
    obtain ⟨p4, e_p4, h⟩ := Option.bind_eq_some_iff.mp h
    refine Sm_callV K (eok_i (eo ek_D_readPart (i := 7) rfl) rfl) cy_D_step im_D_step se_D_step (lgm 568 (by decide +kernel) rfl) ⟨Nat.le_of_ble_eq_true rfl, Nat.le_of_ble_eq_true rfl⟩ (as := []) (b := t) (st := []) (ob_e e_o5) (by decide) rfl rfl rfl rfl (Nat.le_of_ble_eq_true rfl) ⟨Nat.le_of_ble_eq_true rfl, Nat.le_of_ble_eq_true rfl⟩ (cn_D_step e_p4) ?_
    refine Sm_eq (st1 := []) (nc1 := 0) (ns1 := 0) rfl rfl rfl ?_
    refine Sm_run K ek_D_readPart 8 3 rfl ?_
    obtain ⟨o7, e_o7, h⟩ := Option.bind_eq_some_iff.mp h
    obtain ⟨p6, e_p6, h⟩ := Option.bind_eq_some_iff.mp h
    refine Sm_callV K (eok_i (eo ek_D_readPart (i := 11) rfl) rfl) cy_D_isNumber im_D_isNumber se_D_isNumber (lgm 642 (by decide +kernel) rfl) ⟨Nat.le_of_ble_eq_true rfl, Nat.le_of_ble_eq_true rfl⟩ (as := [.int 0, .int x4]) (b := t) (st := []) (ob_e e_o7) (by decide) rfl rfl rfl rfl (Nat.le_of_ble_eq_true rfl) ⟨Nat.le_of_ble_eq_true rfl, Nat.le_of_ble_eq_true rfl⟩ (cn_D_isNumber e_p6) ?_
    refine Sm_eq (st1 := .int p6.1 :: []) (nc1 := 0) (ns1 := 0) rfl rfl rfl ?_
    refine Sm_if_ne K (eo ek_D_readPart (i := 12) rfl) (fun c8 => ?_) (fun c8 => ?_)
    · rw [if_neg c8] at h
      refine Sm_run K ek_D_readPart 15 3 rfl ?_
      obtain ⟨v9, e_v9, h⟩ := Option.bind_eq_some_iff.mp h
      refine Sm_gi K (eo ek_D_readPart (i := 18) rfl) e_v9 ?_
      obtain ⟨w10, e_w10, h⟩ := Option.bind_eq_some_iff.mp h
      refine Sm_wr K (eok_i (eo ek_D_readPart (i := 19) rfl) rfl) e_w10 ?_
      refine Sm_run K ek_D_readPart 20 1 rfl ?_
      obtain ⟨o12, e_o12, h⟩ := Option.bind_eq_some_iff.mp h
      obtain ⟨p11, e_p11, h⟩ := Option.bind_eq_some_iff.mp h
      refine Sm_callV K (eok_i (eo ek_D_readPart (i := 21) rfl) rfl) cy_D_step im_D_step se_D_step (lgm 568 (by decide +kernel) rfl) ⟨Nat.le_of_ble_eq_true rfl, Nat.le_of_ble_eq_true rfl⟩ (as := []) (b := t) (st := []) (ob_e e_o12) (by decide) rfl rfl rfl rfl (Nat.le_of_ble_eq_true rfl) ⟨Nat.le_of_ble_eq_true rfl, Nat.le_of_ble_eq_true rfl⟩ (cn_D_step e_p11) ?_
      refine Sm_eq (st1 := []) (nc1 := 0) (ns1 := 0) rfl rfl rfl ?_
      refine Sm_run K ek_D_readPart 22 1 rfl ?_
      obtain ⟨b13, e_b13, h⟩ := Option.bind_eq_some_iff.mp h
      obtain rfl := Option.some.inj h
      exact Sm_retz K e_b13 hQ (eok_i (eo ek_D_readPart (i := 23) rfl) rfl)
    · rw [if_pos c8] at h
      refine Sm_run K ek_D_readPart 13 1 rfl ?_
      obtain ⟨b14, e_b14, h⟩ := Option.bind_eq_some_iff.mp h
      obtain rfl := Option.some.inj h
      exact Sm_retz K e_b14 hQ (eok_i (eo ek_D_readPart (i := 14) rfl) rfl)
  · rw [if_pos c3] at h
    refine Sm_run K ek_D_readPart 4 1 rfl ?_
    obtain ⟨b15, e_b15, h⟩ := Option.bind_eq_some_iff.mp h
    obtain rfl := Option.some.inj h
    exact Sm_retz K e_b15 hQ (eok_i (eo ek_D_readPart (i := 5) rfl) rfl)
def F_D_readPart (t : Nat) (x1 : Nat) (x2 : Nat) (x3 : Int32) (x4 : Int32) (w : A_W) : Option (Int32 × A_W) := F_D_readPart_0 t x1 x2 x3 x4 w
theorem cn_D_readPart {G : Gx} {t : Nat} {x1 : Nat} {x2 : Nat} {x3 : Int32} {x4 : Int32} {w : A_W} {res : Int32 × A_W} (h : F_D_readPart t x1 x2 x3 x4 w = some res) : Cn G y_D_readPart c_D_readPart 5 (some .boolean) rm_D_readPart [.ref t, .ref x1, .ref x2, .int x3, .int x4] w (some (.int res.1)) res.2 :=
  Cn_of (own := 1) cy_D_readPart rfl rfl (Nat.le_of_ble_eq_true rfl) rfl (fun X K _ hQ => Sm_le (leR_s (leR_s (leR_s (leR_s (leR_s leR_nil))))) (s_D_readPart_0 K hQ _ _ _ _ _ _ h))
/-! EveningCloak$Reader.readDeposit(LEveningCloak$Room;I)Z -/
abbrev c_D_readDeposit : ByteArray := prog_2_method_5_code
def y_D_readDeposit : MethodName := ⟨"EveningCloak$Reader", "readDeposit", "(LEveningCloak$Room;I)Z"⟩
def rm_D_readDeposit : Room := { frames := 6, cells := 0, slots := 0, locals := 131 }
theorem cy_D_readDeposit : Cy y_D_readDeposit c_D_readDeposit 4 (some .boolean) 2 := ⟨lgm 666 (by decide +kernel) rfl, lgm 71 (by decide +kernel) rfl, by decide +kernel, by decide +kernel⟩
theorem im_D_readDeposit : Cond.instanceMethod y_D_readDeposit ∈ lg := lgm 665 (by decide +kernel) rfl
theorem se_D_readDeposit : Cond.selects y_D_readDeposit.cls y_D_readDeposit y_D_readDeposit ∈ lg := lgm 15 (by decide +kernel) rfl
def e_D_readDeposit : List Ent := [
  (0, .aload_n 1, 1, 1, .null, 0, 0, 0),
  (1, .getfield 57, 3, 4, .null, 2, 3, 106),
  (4, .bipush 8, 2, 6, .int 8, 0, 0, 0),
  (6, .if_icmp .lt 5, 3, 11, .null, 0, 0, 0),
  (9, .iconst 0, 1, 10, .int 0, 0, 0, 0),
  (10, .ireturn, 1, 11, .null, 0, 0, 0),
  (11, .aload_n 1, 1, 12, .null, 0, 0, 0),
  (12, .iload_n 2, 1, 13, .null, 0, 0, 0),
  (13, .iconst 0, 1, 14, .int 0, 0, 0, 0),
  (14, .invokevirtual 62, 3, 17, .null, 0, 0, 0),
  (17, .istore_n 3, 1, 18, .null, 0, 0, 0),
  (18, .aload_n 0, 1, 19, .null, 0, 0, 0),
  (19, .invokevirtual 22, 3, 22, .null, 0, 0, 0),
  (22, .aload_n 0, 1, 23, .null, 0, 0, 0),
  (23, .ldc 66, 2, 25, .ref (sA 10), 0, 10, 0),
  (25, .aload_n 1, 1, 26, .null, 0, 0, 0),
  (26, .getfield 68, 3, 29, .null, 2, 7, 116),
  (29, .iload_n 3, 1, 30, .null, 0, 0, 0),
  (30, .bipush 15, 2, 32, .int 15, 0, 0, 0),
  (32, .invokevirtual 71, 3, 35, .null, 0, 0, 0),
  (35, .ifCond .eq 52, 3, 87, .null, 0, 0, 0),
  (38, .aload_n 0, 1, 39, .null, 0, 0, 0),
  (39, .ldc 75, 2, 41, .ref (sA 11), 0, 11, 0),
  (41, .aload_n 1, 1, 42, .null, 0, 0, 0),
  (42, .getfield 77, 3, 45, .null, 2, 8, 118),
  (45, .iload_n 3, 1, 46, .null, 0, 0, 0),
  (46, .bipush 99, 2, 48, .int 99, 0, 0, 0),
  (48, .invokevirtual 71, 3, 51, .null, 0, 0, 0),
  (51, .ifCond .eq 36, 3, 87, .null, 0, 0, 0),
  (54, .aload_n 0, 1, 55, .null, 0, 0, 0),
  (55, .ldc 79, 2, 57, .ref (sA 12), 0, 12, 0),
  (57, .aload_n 1, 1, 58, .null, 0, 0, 0),
  (58, .getfield 81, 3, 61, .null, 2, 9, 121),
  (61, .iload_n 3, 1, 62, .null, 0, 0, 0),
  (62, .sipush 9999, 3, 65, .int 9999, 0, 0, 0),
  (65, .invokevirtual 71, 3, 68, .null, 0, 0, 0),
  (68, .ifCond .eq 19, 3, 87, .null, 0, 0, 0),
  (71, .aload_n 0, 1, 72, .null, 0, 0, 0),
  (72, .ldc 83, 2, 74, .ref (sA 13), 0, 13, 0),
  (74, .aload_n 1, 1, 75, .null, 0, 0, 0),
  (75, .getfield 85, 3, 78, .null, 2, 10, 123),
  (78, .iload_n 3, 1, 79, .null, 0, 0, 0),
  (79, .bipush 99, 2, 81, .int 99, 0, 0, 0),
  (81, .invokevirtual 71, 3, 84, .null, 0, 0, 0),
  (84, .ifCond .ne 5, 3, 89, .null, 0, 0, 0),
  (87, .iconst 0, 1, 88, .int 0, 0, 0, 0),
  (88, .ireturn, 1, 89, .null, 0, 0, 0),
  (89, .aload_n 0, 1, 90, .null, 0, 0, 0),
  (90, .ldc 87, 2, 92, .ref (sA 14), 0, 14, 0),
  (92, .invokevirtual 37, 3, 95, .null, 0, 0, 0),
  (95, .ifCond .eq 14, 3, 109, .null, 0, 0, 0),
  (98, .aload_n 1, 1, 99, .null, 0, 0, 0),
  (99, .getfield 89, 3, 102, .null, 2, 11, 126),
  (102, .iload_n 3, 1, 103, .null, 0, 0, 0),
  (103, .iconst 1, 1, 104, .int 1, 0, 0, 0),
  (104, .iastore, 1, 105, .null, 0, 0, 0),
  (105, .aload_n 0, 1, 106, .null, 0, 0, 0),
  (106, .invokevirtual 22, 3, 109, .null, 0, 0, 0),
  (109, .iconst 1, 1, 110, .int 1, 0, 0, 0),
  (110, .ireturn, 1, 111, .null, 0, 0, 0)]
set_option maxRecDepth 100000 in
theorem ek_D_readDeposit : e_D_readDeposit.all (eok 1 c_D_readDeposit) = true := by decide +kernel
def F_D_readDeposit_87 (w : A_W) : Option (Int32 × A_W) :=
  (bz 0).bind fun b1 =>
  some (b1, w)
def F_D_readDeposit_109 (w : A_W) : Option (Int32 × A_W) :=
  (bz 1).bind fun b1 =>
  some (b1, w)
def F_D_readDeposit_0 (t : Nat) (x1 : Nat) (x2 : Int32) (w : A_W) : Option (Int32 × A_W) :=
  (gi w x1 2 3).bind fun v1 =>
  if v1 < 8 then
    (ob w x1 2).bind fun o4 =>
    (F_R_addDeposit x1 x2 0 w).bind fun p3 =>
    (ob p3.2 t 1).bind fun o6 =>
    (F_D_step t p3.2).bind fun p5 =>
    (gr p5 x1 2 7).bind fun a7 =>
    (ob p5 t 1).bind fun o9 =>
    (F_D_readPart t (sA 10) a7 p3.1 15 p5).bind fun p8 =>
    if p8.1 = 0 then
      F_D_readDeposit_87 p8.2
    else
      (gr p8.2 x1 2 8).bind fun a11 =>
      (ob p8.2 t 1).bind fun o13 =>
      (F_D_readPart t (sA 11) a11 p3.1 99 p8.2).bind fun p12 =>
      if p12.1 = 0 then
        F_D_readDeposit_87 p12.2
      else
        (gr p12.2 x1 2 9).bind fun a15 =>
        (ob p12.2 t 1).bind fun o17 =>
        (F_D_readPart t (sA 12) a15 p3.1 9999 p12.2).bind fun p16 =>
        if p16.1 = 0 then
          F_D_readDeposit_87 p16.2
        else
          (gr p16.2 x1 2 10).bind fun a19 =>
          (ob p16.2 t 1).bind fun o21 =>
          (F_D_readPart t (sA 13) a19 p3.1 99 p16.2).bind fun p20 =>
          if p20.1 = 0 then
            F_D_readDeposit_87 p20.2
          else
            (ob p20.2 t 1).bind fun o24 =>
            (F_D_isWord t (sA 14) p20.2).bind fun p23 =>
            if p23.1 = 0 then
              F_D_readDeposit_109 p23.2
            else
              (gr p23.2 x1 2 11).bind fun a26 =>
              (wr p23.2 a26 p3.1 1).bind fun w27 =>
              (ob w27 t 1).bind fun o29 =>
              (F_D_step t w27).bind fun p28 =>
              F_D_readDeposit_109 p28
  else
    (bz 0).bind fun b30 =>
    some (b30, w)
set_option maxHeartbeats 4000000 in
set_option maxRecDepth 100000 in
theorem s_D_readDeposit_87 {G : Gx} {X : Cx} {res : Int32 × A_W} (K : Ok G X 1 c_D_readDeposit 4 (some .boolean) rm_D_readDeposit) (hQ : QQ G X (some (.int res.1)) res.2 0 0) (w : A_W) (h : F_D_readDeposit_87 w = some res) : Sm G X w 0 0 [none, none, none, none] [] 87 := by
  unfold F_D_readDeposit_87 at h
  refine Sm_run K ek_D_readDeposit 45 1 rfl ?_
  obtain ⟨b1, e_b1, h⟩ := Option.bind_eq_some_iff.mp h
  obtain rfl := Option.some.inj h
  exact Sm_retz K e_b1 hQ (eok_i (eo ek_D_readDeposit (i := 46) rfl) rfl)
set_option maxHeartbeats 4000000 in
set_option maxRecDepth 100000 in
theorem s_D_readDeposit_109 {G : Gx} {X : Cx} {res : Int32 × A_W} (K : Ok G X 1 c_D_readDeposit 4 (some .boolean) rm_D_readDeposit) (hQ : QQ G X (some (.int res.1)) res.2 0 0) (w : A_W) (h : F_D_readDeposit_109 w = some res) : Sm G X w 0 0 [none, none, none, none] [] 109 := by
  unfold F_D_readDeposit_109 at h
  refine Sm_run K ek_D_readDeposit 58 1 rfl ?_
  obtain ⟨b1, e_b1, h⟩ := Option.bind_eq_some_iff.mp h
  obtain rfl := Option.some.inj h
  exact Sm_retz K e_b1 hQ (eok_i (eo ek_D_readDeposit (i := 59) rfl) rfl)
set_option maxHeartbeats 4000000 in
set_option maxRecDepth 100000 in
theorem s_D_readDeposit_0 {G : Gx} {X : Cx} {res : Int32 × A_W} (K : Ok G X 1 c_D_readDeposit 4 (some .boolean) rm_D_readDeposit) (hQ : QQ G X (some (.int res.1)) res.2 0 0) (t : Nat) (x1 : Nat) (x2 : Int32) (w : A_W) (h : F_D_readDeposit_0 t x1 x2 w = some res) : Sm G X w 0 0 [some (.ref t), some (.ref x1), some (.int x2), none] [] 0 := by
  unfold F_D_readDeposit_0 at h
  refine Sm_run K ek_D_readDeposit 0 1 rfl ?_
  obtain ⟨v1, e_v1, h⟩ := Option.bind_eq_some_iff.mp h
  refine Sm_gi K (eo ek_D_readDeposit (i := 1) rfl) e_v1 ?_
  refine Sm_run K ek_D_readDeposit 2 1 rfl ?_
  refine Sm_ic_lt K (eo ek_D_readDeposit (i := 3) rfl) (fun c2 => ?_) (fun c2 => ?_)
  · rw [if_pos c2] at h
    refine Sm_run K ek_D_readDeposit 6 3 rfl ?_
    obtain ⟨o4, e_o4, h⟩ := Option.bind_eq_some_iff.mp h
    obtain ⟨p3, e_p3, h⟩ := Option.bind_eq_some_iff.mp h
    refine Sm_callV K (eok_i (eo ek_D_readDeposit (i := 9) rfl) rfl) cy_R_addDeposit im_R_addDeposit se_R_addDeposit (lgm 667 (by decide +kernel) rfl) ⟨Nat.le_of_ble_eq_true rfl, Nat.le_of_ble_eq_true rfl⟩ (as := [.int x2, .int 0]) (b := x1) (st := []) (ob_e e_o4) (by decide) rfl rfl rfl rfl (Nat.le_of_ble_eq_true rfl) ⟨Nat.le_of_ble_eq_true rfl, Nat.le_of_ble_eq_true rfl⟩ (cn_R_addDeposit e_p3) ?_
    refine Sm_eq (st1 := .int p3.1 :: []) (nc1 := 0) (ns1 := 0) rfl rfl rfl ?_
    refine Sm_run K ek_D_readDeposit 10 2 rfl ?_
    obtain ⟨o6, e_o6, h⟩ := Option.bind_eq_some_iff.mp h
    obtain ⟨p5, e_p5, h⟩ := Option.bind_eq_some_iff.mp h
    refine Sm_callV K (eok_i (eo ek_D_readDeposit (i := 12) rfl) rfl) cy_D_step im_D_step se_D_step (lgm 568 (by decide +kernel) rfl) ⟨Nat.le_of_ble_eq_true rfl, Nat.le_of_ble_eq_true rfl⟩ (as := []) (b := t) (st := []) (ob_e e_o6) (by decide) rfl rfl rfl rfl (Nat.le_of_ble_eq_true rfl) ⟨Nat.le_of_ble_eq_true rfl, Nat.le_of_ble_eq_true rfl⟩ (cn_D_step e_p5) ?_
    refine Sm_eq (st1 := []) (nc1 := 0) (ns1 := 0) rfl rfl rfl ?_
    refine Sm_run K ek_D_readDeposit 13 3 rfl ?_
    obtain ⟨a7, e_a7, h⟩ := Option.bind_eq_some_iff.mp h
    refine Sm_gr K (eo ek_D_readDeposit (i := 16) rfl) e_a7 ?_
    refine Sm_run K ek_D_readDeposit 17 2 rfl ?_
    obtain ⟨o9, e_o9, h⟩ := Option.bind_eq_some_iff.mp h
    obtain ⟨p8, e_p8, h⟩ := Option.bind_eq_some_iff.mp h
    refine Sm_callV K (eok_i (eo ek_D_readDeposit (i := 19) rfl) rfl) cy_D_readPart im_D_readPart se_D_readPart (lgm 669 (by decide +kernel) rfl) ⟨Nat.le_of_ble_eq_true rfl, Nat.le_of_ble_eq_true rfl⟩ (as := [.ref (sA 10), .ref a7, .int p3.1, .int 15]) (b := t) (st := []) (ob_e e_o9) (by decide) rfl rfl rfl rfl (Nat.le_of_ble_eq_true rfl) ⟨Nat.le_of_ble_eq_true rfl, Nat.le_of_ble_eq_true rfl⟩ (cn_D_readPart e_p8) ?_
    refine Sm_eq (st1 := .int p8.1 :: []) (nc1 := 0) (ns1 := 0) rfl rfl rfl ?_
    refine Sm_if_eq K (eo ek_D_readDeposit (i := 20) rfl) (fun c10 => ?_) (fun c10 => ?_)
    · rw [if_pos c10] at h
      exact Sm_le (leR_n (leR_n (leR_n (leR_n leR_nil)))) (s_D_readDeposit_87 K hQ _ h)
    · rw [if_neg c10] at h
      refine Sm_run K ek_D_readDeposit 21 3 rfl ?_
      obtain ⟨a11, e_a11, h⟩ := Option.bind_eq_some_iff.mp h
      refine Sm_gr K (eo ek_D_readDeposit (i := 24) rfl) e_a11 ?_
      refine Sm_run K ek_D_readDeposit 25 2 rfl ?_
      obtain ⟨o13, e_o13, h⟩ := Option.bind_eq_some_iff.mp h
      obtain ⟨p12, e_p12, h⟩ := Option.bind_eq_some_iff.mp h
      refine Sm_callV K (eok_i (eo ek_D_readDeposit (i := 27) rfl) rfl) cy_D_readPart im_D_readPart se_D_readPart (lgm 669 (by decide +kernel) rfl) ⟨Nat.le_of_ble_eq_true rfl, Nat.le_of_ble_eq_true rfl⟩ (as := [.ref (sA 11), .ref a11, .int p3.1, .int 99]) (b := t) (st := []) (ob_e e_o13) (by decide) rfl rfl rfl rfl (Nat.le_of_ble_eq_true rfl) ⟨Nat.le_of_ble_eq_true rfl, Nat.le_of_ble_eq_true rfl⟩ (cn_D_readPart e_p12) ?_
      refine Sm_eq (st1 := .int p12.1 :: []) (nc1 := 0) (ns1 := 0) rfl rfl rfl ?_
      refine Sm_if_eq K (eo ek_D_readDeposit (i := 28) rfl) (fun c14 => ?_) (fun c14 => ?_)
      · rw [if_pos c14] at h
        exact Sm_le (leR_n (leR_n (leR_n (leR_n leR_nil)))) (s_D_readDeposit_87 K hQ _ h)
      · rw [if_neg c14] at h
        refine Sm_run K ek_D_readDeposit 29 3 rfl ?_
        obtain ⟨a15, e_a15, h⟩ := Option.bind_eq_some_iff.mp h
        refine Sm_gr K (eo ek_D_readDeposit (i := 32) rfl) e_a15 ?_
        refine Sm_run K ek_D_readDeposit 33 2 rfl ?_
        obtain ⟨o17, e_o17, h⟩ := Option.bind_eq_some_iff.mp h
        obtain ⟨p16, e_p16, h⟩ := Option.bind_eq_some_iff.mp h
        refine Sm_callV K (eok_i (eo ek_D_readDeposit (i := 35) rfl) rfl) cy_D_readPart im_D_readPart se_D_readPart (lgm 669 (by decide +kernel) rfl) ⟨Nat.le_of_ble_eq_true rfl, Nat.le_of_ble_eq_true rfl⟩ (as := [.ref (sA 12), .ref a15, .int p3.1, .int 9999]) (b := t) (st := []) (ob_e e_o17) (by decide) rfl rfl rfl rfl (Nat.le_of_ble_eq_true rfl) ⟨Nat.le_of_ble_eq_true rfl, Nat.le_of_ble_eq_true rfl⟩ (cn_D_readPart e_p16) ?_
        refine Sm_eq (st1 := .int p16.1 :: []) (nc1 := 0) (ns1 := 0) rfl rfl rfl ?_
        refine Sm_if_eq K (eo ek_D_readDeposit (i := 36) rfl) (fun c18 => ?_) (fun c18 => ?_)
        · rw [if_pos c18] at h
          exact Sm_le (leR_n (leR_n (leR_n (leR_n leR_nil)))) (s_D_readDeposit_87 K hQ _ h)
        · rw [if_neg c18] at h
          refine Sm_run K ek_D_readDeposit 37 3 rfl ?_
          obtain ⟨a19, e_a19, h⟩ := Option.bind_eq_some_iff.mp h
          refine Sm_gr K (eo ek_D_readDeposit (i := 40) rfl) e_a19 ?_
          refine Sm_run K ek_D_readDeposit 41 2 rfl ?_
          obtain ⟨o21, e_o21, h⟩ := Option.bind_eq_some_iff.mp h
          obtain ⟨p20, e_p20, h⟩ := Option.bind_eq_some_iff.mp h
          refine Sm_callV K (eok_i (eo ek_D_readDeposit (i := 43) rfl) rfl) cy_D_readPart im_D_readPart se_D_readPart (lgm 669 (by decide +kernel) rfl) ⟨Nat.le_of_ble_eq_true rfl, Nat.le_of_ble_eq_true rfl⟩ (as := [.ref (sA 13), .ref a19, .int p3.1, .int 99]) (b := t) (st := []) (ob_e e_o21) (by decide) rfl rfl rfl rfl (Nat.le_of_ble_eq_true rfl) ⟨Nat.le_of_ble_eq_true rfl, Nat.le_of_ble_eq_true rfl⟩ (cn_D_readPart e_p20) ?_
          refine Sm_eq (st1 := .int p20.1 :: []) (nc1 := 0) (ns1 := 0) rfl rfl rfl ?_
          refine Sm_if_ne K (eo ek_D_readDeposit (i := 44) rfl) (fun c22 => ?_) (fun c22 => ?_)
          · rw [if_neg c22] at h
            refine Sm_run K ek_D_readDeposit 47 2 rfl ?_
            obtain ⟨o24, e_o24, h⟩ := Option.bind_eq_some_iff.mp h
            obtain ⟨p23, e_p23, h⟩ := Option.bind_eq_some_iff.mp h
            refine Sm_callV K (eok_i (eo ek_D_readDeposit (i := 49) rfl) rfl) cy_D_isWord im_D_isWord se_D_isWord (lgm 584 (by decide +kernel) rfl) ⟨Nat.le_of_ble_eq_true rfl, Nat.le_of_ble_eq_true rfl⟩ (as := [.ref (sA 14)]) (b := t) (st := []) (ob_e e_o24) (by decide) rfl rfl rfl rfl (Nat.le_of_ble_eq_true rfl) ⟨Nat.le_of_ble_eq_true rfl, Nat.le_of_ble_eq_true rfl⟩ (cn_D_isWord e_p23) ?_
            refine Sm_eq (st1 := .int p23.1 :: []) (nc1 := 0) (ns1 := 0) rfl rfl rfl ?_
            refine Sm_if_eq K (eo ek_D_readDeposit (i := 50) rfl) (fun c25 => ?_) (fun c25 => ?_)
            · rw [if_pos c25] at h
              exact Sm_le (leR_n (leR_n (leR_n (leR_n leR_nil)))) (s_D_readDeposit_109 K hQ _ h)
            · rw [if_neg c25] at h
              refine Sm_run K ek_D_readDeposit 51 1 rfl ?_
              obtain ⟨a26, e_a26, h⟩ := Option.bind_eq_some_iff.mp h
              refine Sm_gr K (eo ek_D_readDeposit (i := 52) rfl) e_a26 ?_
              refine Sm_run K ek_D_readDeposit 53 2 rfl ?_
              obtain ⟨w27, e_w27, h⟩ := Option.bind_eq_some_iff.mp h
              refine Sm_wr K (eok_i (eo ek_D_readDeposit (i := 55) rfl) rfl) e_w27 ?_
              refine Sm_run K ek_D_readDeposit 56 1 rfl ?_
              obtain ⟨o29, e_o29, h⟩ := Option.bind_eq_some_iff.mp h
              obtain ⟨p28, e_p28, h⟩ := Option.bind_eq_some_iff.mp h
              refine Sm_callV K (eok_i (eo ek_D_readDeposit (i := 57) rfl) rfl) cy_D_step im_D_step se_D_step (lgm 568 (by decide +kernel) rfl) ⟨Nat.le_of_ble_eq_true rfl, Nat.le_of_ble_eq_true rfl⟩ (as := []) (b := t) (st := []) (ob_e e_o29) (by decide) rfl rfl rfl rfl (Nat.le_of_ble_eq_true rfl) ⟨Nat.le_of_ble_eq_true rfl, Nat.le_of_ble_eq_true rfl⟩ (cn_D_step e_p28) ?_
              refine Sm_eq (st1 := []) (nc1 := 0) (ns1 := 0) rfl rfl rfl ?_
              exact Sm_le (leR_n (leR_n (leR_n (leR_n leR_nil)))) (s_D_readDeposit_109 K hQ _ h)
          · rw [if_pos c22] at h
            exact Sm_le (leR_n (leR_n (leR_n (leR_n leR_nil)))) (s_D_readDeposit_87 K hQ _ h)
  · rw [if_neg c2] at h
    refine Sm_run K ek_D_readDeposit 4 1 rfl ?_
    obtain ⟨b30, e_b30, h⟩ := Option.bind_eq_some_iff.mp h
    obtain rfl := Option.some.inj h
    exact Sm_retz K e_b30 hQ (eok_i (eo ek_D_readDeposit (i := 5) rfl) rfl)
def F_D_readDeposit (t : Nat) (x1 : Nat) (x2 : Int32) (w : A_W) : Option (Int32 × A_W) := F_D_readDeposit_0 t x1 x2 w
theorem cn_D_readDeposit {G : Gx} {t : Nat} {x1 : Nat} {x2 : Int32} {w : A_W} {res : Int32 × A_W} (h : F_D_readDeposit t x1 x2 w = some res) : Cn G y_D_readDeposit c_D_readDeposit 4 (some .boolean) rm_D_readDeposit [.ref t, .ref x1, .int x2] w (some (.int res.1)) res.2 :=
  Cn_of (own := 1) cy_D_readDeposit rfl rfl (Nat.le_of_ble_eq_true rfl) rfl (fun X K _ hQ => Sm_le (leR_s (leR_s (leR_s (leR_n leR_nil)))) (s_D_readDeposit_0 K hQ _ _ _ _ h))
/-! EveningCloak$Reader.readItem(LEveningCloak$Room;)Z -/
abbrev c_D_readItem : ByteArray := prog_2_method_4_code
def y_D_readItem : MethodName := ⟨"EveningCloak$Reader", "readItem", "(LEveningCloak$Room;)Z"⟩
def rm_D_readItem : Room := { frames := 7, cells := 0, slots := 0, locals := 154 }
theorem cy_D_readItem : Cy y_D_readItem c_D_readItem 3 (some .boolean) 1 := ⟨lgm 582 (by decide +kernel) rfl, lgm 71 (by decide +kernel) rfl, by decide +kernel, by decide +kernel⟩
theorem im_D_readItem : Cond.instanceMethod y_D_readItem ∈ lg := lgm 581 (by decide +kernel) rfl
theorem se_D_readItem : Cond.selects y_D_readItem.cls y_D_readItem y_D_readItem ∈ lg := lgm 10 (by decide +kernel) rfl
def e_D_readItem : List Ent := [
  (0, .aload_n 0, 1, 1, .null, 0, 0, 0),
  (1, .ldc 35, 2, 3, .ref (sA 0), 0, 0, 0),
  (3, .invokevirtual 37, 3, 6, .null, 0, 0, 0),
  (6, .ifCond .eq 9, 3, 15, .null, 0, 0, 0),
  (9, .aload_n 0, 1, 10, .null, 0, 0, 0),
  (10, .aload_n 1, 1, 11, .null, 0, 0, 0),
  (11, .invokevirtual 41, 3, 14, .null, 0, 0, 0),
  (14, .ireturn, 1, 15, .null, 0, 0, 0),
  (15, .aload_n 0, 1, 16, .null, 0, 0, 0),
  (16, .ldc 44, 2, 18, .ref (sA 2), 0, 2, 0),
  (18, .invokevirtual 37, 3, 21, .null, 0, 0, 0),
  (21, .ifCond .eq 9, 3, 30, .null, 0, 0, 0),
  (24, .aload_n 0, 1, 25, .null, 0, 0, 0),
  (25, .aload_n 1, 1, 26, .null, 0, 0, 0),
  (26, .invokevirtual 46, 3, 29, .null, 0, 0, 0),
  (29, .ireturn, 1, 30, .null, 0, 0, 0),
  (30, .iconst 0, 1, 31, .int 0, 0, 0, 0),
  (31, .istore_n 2, 1, 32, .null, 0, 0, 0),
  (32, .iload_n 2, 1, 33, .null, 0, 0, 0),
  (33, .bipush 7, 2, 35, .int 7, 0, 0, 0),
  (35, .if_icmp .ge 27, 3, 62, .null, 0, 0, 0),
  (38, .aload_n 0, 1, 39, .null, 0, 0, 0),
  (39, .iload_n 2, 1, 40, .null, 0, 0, 0),
  (40, .invokestatic 49, 3, 43, .null, 0, 0, 0),
  (43, .invokevirtual 37, 3, 46, .null, 0, 0, 0),
  (46, .ifCond .eq 10, 3, 56, .null, 0, 0, 0),
  (49, .aload_n 0, 1, 50, .null, 0, 0, 0),
  (50, .aload_n 1, 1, 51, .null, 0, 0, 0),
  (51, .iload_n 2, 1, 52, .null, 0, 0, 0),
  (52, .invokevirtual 53, 3, 55, .null, 0, 0, 0),
  (55, .ireturn, 1, 56, .null, 0, 0, 0),
  (56, .iinc 2 1, 3, 59, .int 1, 0, 0, 0),
  (59, .goto (-27), 3, 32, .null, 0, 0, 0),
  (62, .iconst 0, 1, 63, .int 0, 0, 0, 0),
  (63, .ireturn, 1, 64, .null, 0, 0, 0)]
set_option maxRecDepth 100000 in
theorem ek_D_readItem : e_D_readItem.all (eok 1 c_D_readItem) = true := by decide +kernel
def F_D_readItem_32 : Nat → Nat → Nat → Int32 → A_W → Option (Int32 × A_W)
  | 0, _, _, _, _ => none
  | n + 1, t, x1, x2, w =>
    if 7 ≤ x2 then
      (bz 0).bind fun b2 =>
      some (b2, w)
    else
      (F_D_kindWord x2 w).bind fun p3 =>
      (ob p3.2 t 1).bind fun o5 =>
      (F_D_isWord t p3.1 p3.2).bind fun p4 =>
      if p4.1 = 0 then
        F_D_readItem_32 n t x1 (x2 + 1) p4.2
      else
        (ob p4.2 t 1).bind fun o8 =>
        (F_D_readDeposit t x1 x2 p4.2).bind fun p7 =>
        (bz p7.1).bind fun b9 =>
        some (b9, p7.2)
def F_D_readItem_0 (t : Nat) (x1 : Nat) (w : A_W) : Option (Int32 × A_W) :=
  (ob w t 1).bind fun o2 =>
  (F_D_isWord t (sA 0) w).bind fun p1 =>
  if p1.1 = 0 then
    (ob p1.2 t 1).bind fun o5 =>
    (F_D_isWord t (sA 2) p1.2).bind fun p4 =>
    if p4.1 = 0 then
      F_D_readItem_32 FU t x1 0 p4.2
    else
      (ob p4.2 t 1).bind fun o8 =>
      (F_D_readStand t x1 p4.2).bind fun p7 =>
      (bz p7.1).bind fun b9 =>
      some (b9, p7.2)
  else
    (ob p1.2 t 1).bind fun o11 =>
    (F_D_readGirl t x1 p1.2).bind fun p10 =>
    (bz p10.1).bind fun b12 =>
    some (b12, p10.2)
set_option maxHeartbeats 4000000 in
set_option maxRecDepth 100000 in
theorem s_D_readItem_32 {G : Gx} {X : Cx} {res : Int32 × A_W} (K : Ok G X 1 c_D_readItem 3 (some .boolean) rm_D_readItem) (hQ : QQ G X (some (.int res.1)) res.2 0 0) : ∀ (n : Nat) (t : Nat) (x1 : Nat) (x2 : Int32) (w : A_W), F_D_readItem_32 n t x1 x2 w = some res → Sm G X w 0 0 [some (.ref t), some (.ref x1), some (.int x2)] [] 32 := by
  intro n
  induction n with
  | zero => intro t x1 x2 w h; cases h
  | succ n ih =>
    intro t x1 x2 w h
    rw [F_D_readItem_32] at h
    refine Sm_run K ek_D_readItem 18 2 rfl ?_
    refine Sm_ic_ge K (eo ek_D_readItem (i := 20) rfl) (fun c1 => ?_) (fun c1 => ?_)
    · rw [if_pos c1] at h
      refine Sm_run K ek_D_readItem 33 1 rfl ?_
      obtain ⟨b2, e_b2, h⟩ := Option.bind_eq_some_iff.mp h
      obtain rfl := Option.some.inj h
      exact Sm_retz K e_b2 hQ (eok_i (eo ek_D_readItem (i := 34) rfl) rfl)
    · rw [if_neg c1] at h
      refine Sm_run K ek_D_readItem 21 2 rfl ?_
      obtain ⟨p3, e_p3, h⟩ := Option.bind_eq_some_iff.mp h
      refine Sm_callS K (eok_i (eo ek_D_readItem (i := 23) rfl) rfl) cy_D_kindWord st_D_kindWord (lgm 653 (by decide +kernel) rfl) ⟨Nat.le_of_ble_eq_true rfl, Nat.le_of_ble_eq_true rfl⟩ (as := [.int x2]) (st := [.ref t]) rfl rfl rfl (Nat.le_of_ble_eq_true rfl) ⟨Nat.le_of_ble_eq_true rfl, Nat.le_of_ble_eq_true rfl⟩ (cn_D_kindWord e_p3) ?_
      refine Sm_eq (st1 := .ref p3.1 :: [.ref t]) (nc1 := 0) (ns1 := 0) rfl rfl rfl ?_
      obtain ⟨o5, e_o5, h⟩ := Option.bind_eq_some_iff.mp h
      obtain ⟨p4, e_p4, h⟩ := Option.bind_eq_some_iff.mp h
      refine Sm_callV K (eok_i (eo ek_D_readItem (i := 24) rfl) rfl) cy_D_isWord im_D_isWord se_D_isWord (lgm 584 (by decide +kernel) rfl) ⟨Nat.le_of_ble_eq_true rfl, Nat.le_of_ble_eq_true rfl⟩ (as := [.ref p3.1]) (b := t) (st := []) (ob_e e_o5) (by decide) rfl rfl rfl rfl (Nat.le_of_ble_eq_true rfl) ⟨Nat.le_of_ble_eq_true rfl, Nat.le_of_ble_eq_true rfl⟩ (cn_D_isWord e_p4) ?_
      refine Sm_eq (st1 := .int p4.1 :: []) (nc1 := 0) (ns1 := 0) rfl rfl rfl ?_
      refine Sm_if_eq K (eo ek_D_readItem (i := 25) rfl) (fun c6 => ?_) (fun c6 => ?_)
      · rw [if_pos c6] at h
        refine Sm_run K ek_D_readItem 31 2 rfl ?_
        exact Sm_le (leR_s (leR_s (leR_s leR_nil))) (ih _ _ _ _ h)
      · rw [if_neg c6] at h
        refine Sm_run K ek_D_readItem 26 3 rfl ?_
        obtain ⟨o8, e_o8, h⟩ := Option.bind_eq_some_iff.mp h
        obtain ⟨p7, e_p7, h⟩ := Option.bind_eq_some_iff.mp h
        refine Sm_callV K (eok_i (eo ek_D_readItem (i := 29) rfl) rfl) cy_D_readDeposit im_D_readDeposit se_D_readDeposit (lgm 663 (by decide +kernel) rfl) ⟨Nat.le_of_ble_eq_true rfl, Nat.le_of_ble_eq_true rfl⟩ (as := [.ref x1, .int x2]) (b := t) (st := []) (ob_e e_o8) (by decide) rfl rfl rfl rfl (Nat.le_of_ble_eq_true rfl) ⟨Nat.le_of_ble_eq_true rfl, Nat.le_of_ble_eq_true rfl⟩ (cn_D_readDeposit e_p7) ?_
        refine Sm_eq (st1 := .int p7.1 :: []) (nc1 := 0) (ns1 := 0) rfl rfl rfl ?_
        obtain ⟨b9, e_b9, h⟩ := Option.bind_eq_some_iff.mp h
        obtain rfl := Option.some.inj h
        exact Sm_retz K e_b9 hQ (eok_i (eo ek_D_readItem (i := 30) rfl) rfl)
set_option maxHeartbeats 4000000 in
set_option maxRecDepth 100000 in
theorem s_D_readItem_0 {G : Gx} {X : Cx} {res : Int32 × A_W} (K : Ok G X 1 c_D_readItem 3 (some .boolean) rm_D_readItem) (hQ : QQ G X (some (.int res.1)) res.2 0 0) (t : Nat) (x1 : Nat) (w : A_W) (h : F_D_readItem_0 t x1 w = some res) : Sm G X w 0 0 [some (.ref t), some (.ref x1), none] [] 0 := by
  unfold F_D_readItem_0 at h
  refine Sm_run K ek_D_readItem 0 2 rfl ?_
  obtain ⟨o2, e_o2, h⟩ := Option.bind_eq_some_iff.mp h
  obtain ⟨p1, e_p1, h⟩ := Option.bind_eq_some_iff.mp h
  refine Sm_callV K (eok_i (eo ek_D_readItem (i := 2) rfl) rfl) cy_D_isWord im_D_isWord se_D_isWord (lgm 584 (by decide +kernel) rfl) ⟨Nat.le_of_ble_eq_true rfl, Nat.le_of_ble_eq_true rfl⟩ (as := [.ref (sA 0)]) (b := t) (st := []) (ob_e e_o2) (by decide) rfl rfl rfl rfl (Nat.le_of_ble_eq_true rfl) ⟨Nat.le_of_ble_eq_true rfl, Nat.le_of_ble_eq_true rfl⟩ (cn_D_isWord e_p1) ?_
  refine Sm_eq (st1 := .int p1.1 :: []) (nc1 := 0) (ns1 := 0) rfl rfl rfl ?_
  refine Sm_if_eq K (eo ek_D_readItem (i := 3) rfl) (fun c3 => ?_) (fun c3 => ?_)
  · rw [if_pos c3] at h
    refine Sm_run K ek_D_readItem 8 2 rfl ?_
    obtain ⟨o5, e_o5, h⟩ := Option.bind_eq_some_iff.mp h
    obtain ⟨p4, e_p4, h⟩ := Option.bind_eq_some_iff.mp h
    refine Sm_callV K (eok_i (eo ek_D_readItem (i := 10) rfl) rfl) cy_D_isWord im_D_isWord se_D_isWord (lgm 584 (by decide +kernel) rfl) ⟨Nat.le_of_ble_eq_true rfl, Nat.le_of_ble_eq_true rfl⟩ (as := [.ref (sA 2)]) (b := t) (st := []) (ob_e e_o5) (by decide) rfl rfl rfl rfl (Nat.le_of_ble_eq_true rfl) ⟨Nat.le_of_ble_eq_true rfl, Nat.le_of_ble_eq_true rfl⟩ (cn_D_isWord e_p4) ?_
    refine Sm_eq (st1 := .int p4.1 :: []) (nc1 := 0) (ns1 := 0) rfl rfl rfl ?_
    refine Sm_if_eq K (eo ek_D_readItem (i := 11) rfl) (fun c6 => ?_) (fun c6 => ?_)
    · rw [if_pos c6] at h
      refine Sm_run K ek_D_readItem 16 2 rfl ?_
      exact Sm_le (leR_s (leR_s (leR_s leR_nil))) (s_D_readItem_32 K hQ FU _ _ _ _ h)
    · rw [if_neg c6] at h
      refine Sm_run K ek_D_readItem 12 2 rfl ?_
      obtain ⟨o8, e_o8, h⟩ := Option.bind_eq_some_iff.mp h
      obtain ⟨p7, e_p7, h⟩ := Option.bind_eq_some_iff.mp h
      refine Sm_callV K (eok_i (eo ek_D_readItem (i := 14) rfl) rfl) cy_D_readStand im_D_readStand se_D_readStand (lgm 648 (by decide +kernel) rfl) ⟨Nat.le_of_ble_eq_true rfl, Nat.le_of_ble_eq_true rfl⟩ (as := [.ref x1]) (b := t) (st := []) (ob_e e_o8) (by decide) rfl rfl rfl rfl (Nat.le_of_ble_eq_true rfl) ⟨Nat.le_of_ble_eq_true rfl, Nat.le_of_ble_eq_true rfl⟩ (cn_D_readStand e_p7) ?_
      refine Sm_eq (st1 := .int p7.1 :: []) (nc1 := 0) (ns1 := 0) rfl rfl rfl ?_
      obtain ⟨b9, e_b9, h⟩ := Option.bind_eq_some_iff.mp h
      obtain rfl := Option.some.inj h
      exact Sm_retz K e_b9 hQ (eok_i (eo ek_D_readItem (i := 15) rfl) rfl)
  · rw [if_neg c3] at h
    refine Sm_run K ek_D_readItem 4 2 rfl ?_
    obtain ⟨o11, e_o11, h⟩ := Option.bind_eq_some_iff.mp h
    obtain ⟨p10, e_p10, h⟩ := Option.bind_eq_some_iff.mp h
    refine Sm_callV K (eok_i (eo ek_D_readItem (i := 6) rfl) rfl) cy_D_readGirl im_D_readGirl se_D_readGirl (lgm 636 (by decide +kernel) rfl) ⟨Nat.le_of_ble_eq_true rfl, Nat.le_of_ble_eq_true rfl⟩ (as := [.ref x1]) (b := t) (st := []) (ob_e e_o11) (by decide) rfl rfl rfl rfl (Nat.le_of_ble_eq_true rfl) ⟨Nat.le_of_ble_eq_true rfl, Nat.le_of_ble_eq_true rfl⟩ (cn_D_readGirl e_p10) ?_
    refine Sm_eq (st1 := .int p10.1 :: []) (nc1 := 0) (ns1 := 0) rfl rfl rfl ?_
    obtain ⟨b12, e_b12, h⟩ := Option.bind_eq_some_iff.mp h
    obtain rfl := Option.some.inj h
    exact Sm_retz K e_b12 hQ (eok_i (eo ek_D_readItem (i := 7) rfl) rfl)
def F_D_readItem (t : Nat) (x1 : Nat) (w : A_W) : Option (Int32 × A_W) := F_D_readItem_0 t x1 w
theorem cn_D_readItem {G : Gx} {t : Nat} {x1 : Nat} {w : A_W} {res : Int32 × A_W} (h : F_D_readItem t x1 w = some res) : Cn G y_D_readItem c_D_readItem 3 (some .boolean) rm_D_readItem [.ref t, .ref x1] w (some (.int res.1)) res.2 :=
  Cn_of (own := 1) cy_D_readItem rfl rfl (Nat.le_of_ble_eq_true rfl) rfl (fun X K _ hQ => Sm_le (leR_s (leR_s (leR_n leR_nil))) (s_D_readItem_0 K hQ _ _ _ h))
