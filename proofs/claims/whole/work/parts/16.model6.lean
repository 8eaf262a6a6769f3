/-! EveningCloakModel.reads()V -/
abbrev c_M_reads : ByteArray := prog_6_method_79_code
def y_M_reads : MethodName := ⟨"EveningCloakModel", "reads", "()V"⟩
def rm_M_reads : Room := { frames := 2, cells := 0, slots := 0, locals := 45 }
theorem cy_M_reads : Cy y_M_reads c_M_reads 1 (none) 0 := ⟨lgm 1112 (by decide +kernel) rfl, lgm 73 (by decide +kernel) rfl, by decide +kernel, by decide +kernel⟩
theorem im_M_reads : Cond.instanceMethod y_M_reads ∈ lg := lgm 1111 (by decide +kernel) rfl
theorem se_M_reads : Cond.selects y_M_reads.cls y_M_reads y_M_reads ∈ lg := lgm 54 (by decide +kernel) rfl
def e_M_reads : List Ent := [
  (0, .aload_n 0, 1, 1, .null, 0, 0, 0),
  (1, .aload_n 0, 1, 2, .null, 0, 0, 0),
  (2, .getfield 199, 3, 5, .null, 4, 12, 774),
  (5, .bipush 32, 2, 7, .int 32, 0, 0, 0),
  (7, .bipush 32, 2, 9, .int 32, 0, 0, 0),
  (9, .invokevirtual 205, 3, 12, .null, 0, 0, 0),
  (12, .ifCond .eq 16, 3, 28, .null, 0, 0, 0),
  (15, .aload_n 0, 1, 16, .null, 0, 0, 0),
  (16, .dup, 1, 17, .null, 0, 0, 0),
  (17, .getfield 199, 3, 20, .null, 4, 12, 774),
  (20, .iconst 1, 1, 21, .int 1, 0, 0, 0),
  (21, .iadd, 1, 22, .null, 0, 0, 0),
  (22, .putfield 199, 3, 25, .null, 4, 12, 774),
  (25, .goto (-25), 3, 0, .null, 0, 0, 0),
  (28, .aload_n 0, 1, 29, .null, 0, 0, 0),
  (29, .aload_n 0, 1, 30, .null, 0, 0, 0),
  (30, .getfield 199, 3, 33, .null, 4, 12, 774),
  (33, .putfield 196, 3, 36, .null, 4, 11, 773),
  (36, .aload_n 0, 1, 37, .null, 0, 0, 0),
  (37, .iconst 0, 1, 38, .int 0, 0, 0, 0),
  (38, .putfield 208, 3, 41, .null, 4, 13, 775),
  (41, .aload_n 0, 1, 42, .null, 0, 0, 0),
  (42, .getfield 199, 3, 45, .null, 4, 12, 774),
  (45, .aload_n 0, 1, 46, .null, 0, 0, 0),
  (46, .getfield 189, 3, 49, .null, 4, 9, 771),
  (49, .if_icmp .ne 12, 3, 61, .null, 0, 0, 0),
  (52, .aload_n 0, 1, 53, .null, 0, 0, 0),
  (53, .bipush 22, 2, 55, .int 22, 0, 0, 0),
  (55, .putfield 211, 3, 58, .null, 4, 10, 772),
  (58, .goto 186, 3, 244, .null, 0, 0, 0),
  (61, .aload_n 0, 1, 62, .null, 0, 0, 0),
  (62, .aload_n 0, 1, 63, .null, 0, 0, 0),
  (63, .getfield 199, 3, 66, .null, 4, 12, 774),
  (66, .bipush 97, 2, 68, .int 97, 0, 0, 0),
  (68, .bipush 122, 2, 70, .int 122, 0, 0, 0),
  (70, .invokevirtual 205, 3, 73, .null, 0, 0, 0),
  (73, .ifCond .eq 42, 3, 115, .null, 0, 0, 0),
  (76, .aload_n 0, 1, 77, .null, 0, 0, 0),
  (77, .aload_n 0, 1, 78, .null, 0, 0, 0),
  (78, .getfield 199, 3, 81, .null, 4, 12, 774),
  (81, .bipush 97, 2, 83, .int 97, 0, 0, 0),
  (83, .bipush 122, 2, 85, .int 122, 0, 0, 0),
  (85, .invokevirtual 205, 3, 88, .null, 0, 0, 0),
  (88, .ifCond .eq 16, 3, 104, .null, 0, 0, 0),
  (91, .aload_n 0, 1, 92, .null, 0, 0, 0),
  (92, .dup, 1, 93, .null, 0, 0, 0),
  (93, .getfield 199, 3, 96, .null, 4, 12, 774),
  (96, .iconst 1, 1, 97, .int 1, 0, 0, 0),
  (97, .iadd, 1, 98, .null, 0, 0, 0),
  (98, .putfield 199, 3, 101, .null, 4, 12, 774),
  (101, .goto (-25), 3, 76, .null, 0, 0, 0),
  (104, .aload_n 0, 1, 105, .null, 0, 0, 0),
  (105, .aload_n 0, 1, 106, .null, 0, 0, 0),
  (106, .invokevirtual 214, 3, 109, .null, 0, 0, 0),
  (109, .putfield 211, 3, 112, .null, 4, 10, 772),
  (112, .goto 132, 3, 244, .null, 0, 0, 0),
  (115, .aload_n 0, 1, 116, .null, 0, 0, 0),
  (116, .aload_n 0, 1, 117, .null, 0, 0, 0),
  (117, .getfield 199, 3, 120, .null, 4, 12, 774),
  (120, .bipush 48, 2, 122, .int 48, 0, 0, 0),
  (122, .bipush 57, 2, 124, .int 57, 0, 0, 0),
  (124, .invokevirtual 205, 3, 127, .null, 0, 0, 0),
  (127, .ifCond .eq 81, 3, 208, .null, 0, 0, 0),
  (130, .aload_n 0, 1, 131, .null, 0, 0, 0),
  (131, .aload_n 0, 1, 132, .null, 0, 0, 0),
  (132, .getfield 199, 3, 135, .null, 4, 12, 774),
  (135, .bipush 48, 2, 137, .int 48, 0, 0, 0),
  (137, .bipush 57, 2, 139, .int 57, 0, 0, 0),
  (139, .invokevirtual 205, 3, 142, .null, 0, 0, 0),
  (142, .ifCond .eq 57, 3, 199, .null, 0, 0, 0),
  (145, .aload_n 0, 1, 146, .null, 0, 0, 0),
  (146, .aload_n 0, 1, 147, .null, 0, 0, 0),
  (147, .getfield 208, 3, 150, .null, 4, 13, 775),
  (150, .sipush 9999, 3, 153, .int 9999, 0, 0, 0),
  (153, .if_icmp .le 10, 3, 163, .null, 0, 0, 0),
  (156, .aload_n 0, 1, 157, .null, 0, 0, 0),
  (157, .getfield 208, 3, 160, .null, 4, 13, 775),
  (160, .goto 23, 3, 183, .null, 0, 0, 0),
  (163, .bipush 10, 2, 165, .int 10, 0, 0, 0),
  (165, .aload_n 0, 1, 166, .null, 0, 0, 0),
  (166, .getfield 208, 3, 169, .null, 4, 13, 775),
  (169, .imul, 1, 170, .null, 0, 0, 0),
  (170, .aload_n 0, 1, 171, .null, 0, 0, 0),
  (171, .getfield 31, 3, 174, .null, 4, 8, 770),
  (174, .aload_n 0, 1, 175, .null, 0, 0, 0),
  (175, .getfield 199, 3, 178, .null, 4, 12, 774),
  (178, .iaload, 1, 179, .null, 0, 0, 0),
  (179, .iadd, 1, 180, .null, 0, 0, 0),
  (180, .bipush 48, 2, 182, .int 48, 0, 0, 0),
  (182, .isub, 1, 183, .null, 0, 0, 0),
  (183, .putfield 208, 3, 186, .null, 4, 13, 775),
  (186, .aload_n 0, 1, 187, .null, 0, 0, 0),
  (187, .dup, 1, 188, .null, 0, 0, 0),
  (188, .getfield 199, 3, 191, .null, 4, 12, 774),
  (191, .iconst 1, 1, 192, .int 1, 0, 0, 0),
  (192, .iadd, 1, 193, .null, 0, 0, 0),
  (193, .putfield 199, 3, 196, .null, 4, 12, 774),
  (196, .goto (-66), 3, 130, .null, 0, 0, 0),
  (199, .aload_n 0, 1, 200, .null, 0, 0, 0),
  (200, .bipush 20, 2, 202, .int 20, 0, 0, 0),
  (202, .putfield 211, 3, 205, .null, 4, 10, 772),
  (205, .goto 39, 3, 244, .null, 0, 0, 0),
  (208, .aload_n 0, 1, 209, .null, 0, 0, 0),
  (209, .aload_n 0, 1, 210, .null, 0, 0, 0),
  (210, .aload_n 0, 1, 211, .null, 0, 0, 0),
  (211, .getfield 199, 3, 214, .null, 4, 12, 774),
  (214, .bipush 59, 2, 216, .int 59, 0, 0, 0),
  (216, .bipush 59, 2, 218, .int 59, 0, 0, 0),
  (218, .invokevirtual 205, 3, 221, .null, 0, 0, 0),
  (221, .ifCond .eq 8, 3, 229, .null, 0, 0, 0),
  (224, .bipush 21, 2, 226, .int 21, 0, 0, 0),
  (226, .goto 5, 3, 231, .null, 0, 0, 0),
  (229, .bipush 23, 2, 231, .int 23, 0, 0, 0),
  (231, .putfield 211, 3, 234, .null, 4, 10, 772),
  (234, .aload_n 0, 1, 235, .null, 0, 0, 0),
  (235, .dup, 1, 236, .null, 0, 0, 0),
  (236, .getfield 199, 3, 239, .null, 4, 12, 774),
  (239, .iconst 1, 1, 240, .int 1, 0, 0, 0),
  (240, .iadd, 1, 241, .null, 0, 0, 0),
  (241, .putfield 199, 3, 244, .null, 4, 12, 774),
  (244, .return_, 1, 245, .null, 0, 0, 0)]
set_option maxRecDepth 100000 in
theorem ek_M_reads : e_M_reads.all (eok 4 c_M_reads) = true := by decide +kernel
def F_M_reads_244 (w : A_W) : Option (A_W) :=
  some w
def F_M_reads_76 : Nat → Nat → A_W → Option (A_W)
  | 0, _, _ => none
  | n + 1, t, w =>
    (gi w t 4 12).bind fun v1 =>
    (ob w t 4).bind fun o3 =>
    (F_M_isByte t v1 97 122 w).bind fun p2 =>
    if p2.1 = 0 then
      (ob p2.2 t 4).bind fun o6 =>
      (F_M_wordHere t p2.2).bind fun p5 =>
      (pf p5.2 t 4 10 (.int p5.1)).bind fun w7 =>
      F_M_reads_244 w7
    else
      (gi p2.2 t 4 12).bind fun v8 =>
      (pf p2.2 t 4 12 (.int (v8 + 1))).bind fun w9 =>
      F_M_reads_76 n t w9
def F_M_reads_183 (k130 : Nat → A_W → Option (A_W)) (t : Nat) (y0 : Nat) (y1 : Int32) (w : A_W) : Option (A_W) :=
  (pf w y0 4 13 (.int y1)).bind fun w1 =>
  (gi w1 t 4 12).bind fun v2 =>
  (pf w1 t 4 12 (.int (v2 + 1))).bind fun w3 =>
  k130 t w3
def F_M_reads_130 : Nat → Nat → A_W → Option (A_W)
  | 0, _, _ => none
  | n + 1, t, w =>
    (gi w t 4 12).bind fun v1 =>
    (ob w t 4).bind fun o3 =>
    (F_M_isByte t v1 48 57 w).bind fun p2 =>
    if p2.1 = 0 then
      (pf p2.2 t 4 10 (.int 20)).bind fun w5 =>
      F_M_reads_244 w5
    else
      (gi p2.2 t 4 13).bind fun v6 =>
      if v6 ≤ 9999 then
        (gi p2.2 t 4 13).bind fun v8 =>
        (gr p2.2 t 4 8).bind fun a9 =>
        (gi p2.2 t 4 12).bind fun v10 =>
        (rd p2.2 a9 v10).bind fun v11 =>
        F_M_reads_183 (F_M_reads_130 n) t t (((10 * v8) + v11) - 48) p2.2
      else
        (gi p2.2 t 4 13).bind fun v12 =>
        F_M_reads_183 (F_M_reads_130 n) t t v12 p2.2
def F_M_reads_231 (t : Nat) (y0 : Nat) (y1 : Int32) (w : A_W) : Option (A_W) :=
  (pf w y0 4 10 (.int y1)).bind fun w1 =>
  (gi w1 t 4 12).bind fun v2 =>
  (pf w1 t 4 12 (.int (v2 + 1))).bind fun w3 =>
  F_M_reads_244 w3
def F_M_reads_0 : Nat → Nat → A_W → Option (A_W)
  | 0, _, _ => none
  | n + 1, t, w =>
    (gi w t 4 12).bind fun v1 =>
    (ob w t 4).bind fun o3 =>
    (F_M_isByte t v1 32 32 w).bind fun p2 =>
    if p2.1 = 0 then
      (gi p2.2 t 4 12).bind fun v5 =>
      (pf p2.2 t 4 11 (.int v5)).bind fun w6 =>
      (pf w6 t 4 13 (.int 0)).bind fun w7 =>
      (gi w7 t 4 12).bind fun v8 =>
      (gi w7 t 4 9).bind fun v9 =>
      if v8 = v9 then
        (pf w7 t 4 10 (.int 22)).bind fun w23 =>
        F_M_reads_244 w23
      else
        (gi w7 t 4 12).bind fun v11 =>
        (ob w7 t 4).bind fun o13 =>
        (F_M_isByte t v11 97 122 w7).bind fun p12 =>
        if p12.1 = 0 then
          (gi p12.2 t 4 12).bind fun v15 =>
          (ob p12.2 t 4).bind fun o17 =>
          (F_M_isByte t v15 48 57 p12.2).bind fun p16 =>
          if p16.1 = 0 then
            (gi p16.2 t 4 12).bind fun v19 =>
            (ob p16.2 t 4).bind fun o21 =>
            (F_M_isByte t v19 59 59 p16.2).bind fun p20 =>
            if p20.1 = 0 then
              F_M_reads_231 t t 23 p20.2
            else
              F_M_reads_231 t t 21 p20.2
          else
            F_M_reads_130 FU t p16.2
        else
          F_M_reads_76 FU t p12.2
    else
      (gi p2.2 t 4 12).bind fun v24 =>
      (pf p2.2 t 4 12 (.int (v24 + 1))).bind fun w25 =>
      F_M_reads_0 n t w25
set_option maxHeartbeats 4000000 in
set_option maxRecDepth 100000 in
theorem s_M_reads_244 {G : Gx} {X : Cx} {res : A_W} (K : Ok G X 4 c_M_reads 1 (none) rm_M_reads) (hQ : QQ G X none res 0 0) (w : A_W) (h : F_M_reads_244 w = some res) : Sm G X w 0 0 [none] [] 244 := by
  unfold F_M_reads_244 at h
  obtain rfl := Option.some.inj h
  exact Sm_retv K hQ (eok_i (eo ek_M_reads (i := 120) rfl) rfl)
set_option maxHeartbeats 4000000 in
set_option maxRecDepth 100000 in
theorem s_M_reads_76 {G : Gx} {X : Cx} {res : A_W} (K : Ok G X 4 c_M_reads 1 (none) rm_M_reads) (hQ : QQ G X none res 0 0) : ∀ (n : Nat) (t : Nat) (w : A_W), F_M_reads_76 n t w = some res → Sm G X w 0 0 [some (.ref t)] [] 76 := by
  intro n
  induction n with
  | zero => intro t w h; cases h
  | succ n ih =>
    intro t w h
    rw [F_M_reads_76] at h
    refine Sm_run K ek_M_reads 37 2 rfl ?_
    obtain ⟨v1, e_v1, h⟩ := Option.bind_eq_some_iff.mp h
    refine Sm_gi K (eo ek_M_reads (i := 39) rfl) e_v1 ?_
    refine Sm_run K ek_M_reads 40 2 rfl ?_
    obtain ⟨o3, e_o3, h⟩ := Option.bind_eq_some_iff.mp h
    obtain ⟨p2, e_p2, h⟩ := Option.bind_eq_some_iff.mp h
    refine Sm_callV K (eok_i (eo ek_M_reads (i := 42) rfl) rfl) cy_M_isByte im_M_isByte se_M_isByte (lgm 1113 (by decide +kernel) rfl) ⟨Nat.le_of_ble_eq_true rfl, Nat.le_of_ble_eq_true rfl⟩ (as := [.int v1, .int 97, .int 122]) (b := t) (st := []) (ob_e e_o3) (by decide) rfl rfl rfl rfl (Nat.le_of_ble_eq_true rfl) ⟨Nat.le_of_ble_eq_true rfl, Nat.le_of_ble_eq_true rfl⟩ (cn_M_isByte e_p2) ?_
    refine Sm_eq (st1 := .int p2.1 :: []) (nc1 := 0) (ns1 := 0) rfl rfl rfl ?_
    refine Sm_if_eq K (eo ek_M_reads (i := 43) rfl) (fun c4 => ?_) (fun c4 => ?_)
    · rw [if_pos c4] at h
      refine Sm_run K ek_M_reads 51 2 rfl ?_
      obtain ⟨o6, e_o6, h⟩ := Option.bind_eq_some_iff.mp h
      obtain ⟨p5, e_p5, h⟩ := Option.bind_eq_some_iff.mp h
      refine Sm_callV K (eok_i (eo ek_M_reads (i := 53) rfl) rfl) cy_M_wordHere im_M_wordHere se_M_wordHere (lgm 1117 (by decide +kernel) rfl) ⟨Nat.le_of_ble_eq_true rfl, Nat.le_of_ble_eq_true rfl⟩ (as := []) (b := t) (st := [.ref t]) (ob_e e_o6) (by decide) rfl rfl rfl rfl (Nat.le_of_ble_eq_true rfl) ⟨Nat.le_of_ble_eq_true rfl, Nat.le_of_ble_eq_true rfl⟩ (cn_M_wordHere e_p5) ?_
      refine Sm_eq (st1 := .int p5.1 :: [.ref t]) (nc1 := 0) (ns1 := 0) rfl rfl rfl ?_
      obtain ⟨w7, e_w7, h⟩ := Option.bind_eq_some_iff.mp h
      refine Sm_pi K (eo ek_M_reads (i := 54) rfl) rfl rfl e_w7 ?_
      refine Sm_run K ek_M_reads 55 1 rfl ?_
      exact Sm_le (leR_n leR_nil) (s_M_reads_244 K hQ _ h)
    · rw [if_neg c4] at h
      refine Sm_run K ek_M_reads 44 2 rfl ?_
      obtain ⟨v8, e_v8, h⟩ := Option.bind_eq_some_iff.mp h
      refine Sm_gi K (eo ek_M_reads (i := 46) rfl) e_v8 ?_
      refine Sm_run K ek_M_reads 47 2 rfl ?_
      obtain ⟨w9, e_w9, h⟩ := Option.bind_eq_some_iff.mp h
      refine Sm_pi K (eo ek_M_reads (i := 49) rfl) rfl rfl e_w9 ?_
      refine Sm_run K ek_M_reads 50 1 rfl ?_
      exact Sm_le (leR_s leR_nil) (ih _ _ h)
set_option maxHeartbeats 4000000 in
set_option maxRecDepth 100000 in
theorem s_M_reads_183 {G : Gx} {X : Cx} {res : A_W} (K : Ok G X 4 c_M_reads 1 (none) rm_M_reads) (hQ : QQ G X none res 0 0) {k130 : Nat → A_W → Option (A_W)} (hk130 : ∀ (t : Nat) (w : A_W), k130 t w = some res → Sm G X w 0 0 [some (.ref t)] [] 130) (t : Nat) (y0 : Nat) (y1 : Int32) (w : A_W) (h : F_M_reads_183 k130 t y0 y1 w = some res) : Sm G X w 0 0 [some (.ref t)] [.int y1, .ref y0] 183 := by
  unfold F_M_reads_183 at h
  obtain ⟨w1, e_w1, h⟩ := Option.bind_eq_some_iff.mp h
  refine Sm_pi K (eo ek_M_reads (i := 90) rfl) rfl rfl e_w1 ?_
  refine Sm_run K ek_M_reads 91 2 rfl ?_
  obtain ⟨v2, e_v2, h⟩ := Option.bind_eq_some_iff.mp h
  refine Sm_gi K (eo ek_M_reads (i := 93) rfl) e_v2 ?_
  refine Sm_run K ek_M_reads 94 2 rfl ?_
  obtain ⟨w3, e_w3, h⟩ := Option.bind_eq_some_iff.mp h
  refine Sm_pi K (eo ek_M_reads (i := 96) rfl) rfl rfl e_w3 ?_
  refine Sm_run K ek_M_reads 97 1 rfl ?_
  exact Sm_le (leR_s leR_nil) (hk130 _ _ h)
set_option maxHeartbeats 4000000 in
set_option maxRecDepth 100000 in
theorem s_M_reads_130 {G : Gx} {X : Cx} {res : A_W} (K : Ok G X 4 c_M_reads 1 (none) rm_M_reads) (hQ : QQ G X none res 0 0) : ∀ (n : Nat) (t : Nat) (w : A_W), F_M_reads_130 n t w = some res → Sm G X w 0 0 [some (.ref t)] [] 130 := by
  intro n
  induction n with
  | zero => intro t w h; cases h
  | succ n ih =>
    intro t w h
    rw [F_M_reads_130] at h
    refine Sm_run K ek_M_reads 63 2 rfl ?_
    obtain ⟨v1, e_v1, h⟩ := Option.bind_eq_some_iff.mp h
    refine Sm_gi K (eo ek_M_reads (i := 65) rfl) e_v1 ?_
    refine Sm_run K ek_M_reads 66 2 rfl ?_
    obtain ⟨o3, e_o3, h⟩ := Option.bind_eq_some_iff.mp h
    obtain ⟨p2, e_p2, h⟩ := Option.bind_eq_some_iff.mp h
    refine Sm_callV K (eok_i (eo ek_M_reads (i := 68) rfl) rfl) cy_M_isByte im_M_isByte se_M_isByte (lgm 1113 (by decide +kernel) rfl) ⟨Nat.le_of_ble_eq_true rfl, Nat.le_of_ble_eq_true rfl⟩ (as := [.int v1, .int 48, .int 57]) (b := t) (st := []) (ob_e e_o3) (by decide) rfl rfl rfl rfl (Nat.le_of_ble_eq_true rfl) ⟨Nat.le_of_ble_eq_true rfl, Nat.le_of_ble_eq_true rfl⟩ (cn_M_isByte e_p2) ?_
    refine Sm_eq (st1 := .int p2.1 :: []) (nc1 := 0) (ns1 := 0) rfl rfl rfl ?_
    refine Sm_if_eq K (eo ek_M_reads (i := 69) rfl) (fun c4 => ?_) (fun c4 => ?_)
    · rw [if_pos c4] at h
      refine Sm_run K ek_M_reads 98 2 rfl ?_
      obtain ⟨w5, e_w5, h⟩ := Option.bind_eq_some_iff.mp h
      refine Sm_pi K (eo ek_M_reads (i := 100) rfl) rfl rfl e_w5 ?_
      refine Sm_run K ek_M_reads 101 1 rfl ?_
      exact Sm_le (leR_n leR_nil) (s_M_reads_244 K hQ _ h)
    · rw [if_neg c4] at h
      refine Sm_run K ek_M_reads 70 2 rfl ?_
      obtain ⟨v6, e_v6, h⟩ := Option.bind_eq_some_iff.mp h
      refine Sm_gi K (eo ek_M_reads (i := 72) rfl) e_v6 ?_
      refine Sm_run K ek_M_reads 73 1 rfl ?_
      refine Sm_ic_le K (eo ek_M_reads (i := 74) rfl) (fun c7 => ?_) (fun c7 => ?_)
      · rw [if_pos c7] at h
        refine Sm_run K ek_M_reads 78 2 rfl ?_
        obtain ⟨v8, e_v8, h⟩ := Option.bind_eq_some_iff.mp h
        refine Sm_gi K (eo ek_M_reads (i := 80) rfl) e_v8 ?_
        refine Sm_run K ek_M_reads 81 2 rfl ?_
        obtain ⟨a9, e_a9, h⟩ := Option.bind_eq_some_iff.mp h
        refine Sm_gr K (eo ek_M_reads (i := 83) rfl) e_a9 ?_
        refine Sm_run K ek_M_reads 84 1 rfl ?_
        obtain ⟨v10, e_v10, h⟩ := Option.bind_eq_some_iff.mp h
        refine Sm_gi K (eo ek_M_reads (i := 85) rfl) e_v10 ?_
        obtain ⟨v11, e_v11, h⟩ := Option.bind_eq_some_iff.mp h
        refine Sm_rd K (eok_i (eo ek_M_reads (i := 86) rfl) rfl) e_v11 ?_
        refine Sm_run K ek_M_reads 87 3 rfl ?_
        exact Sm_le (leR_s leR_nil) (s_M_reads_183 K hQ ih _ _ _ _ h)
      · rw [if_neg c7] at h
        refine Sm_run K ek_M_reads 75 1 rfl ?_
        obtain ⟨v12, e_v12, h⟩ := Option.bind_eq_some_iff.mp h
        refine Sm_gi K (eo ek_M_reads (i := 76) rfl) e_v12 ?_
        refine Sm_run K ek_M_reads 77 1 rfl ?_
        exact Sm_le (leR_s leR_nil) (s_M_reads_183 K hQ ih _ _ _ _ h)
set_option maxHeartbeats 4000000 in
set_option maxRecDepth 100000 in
theorem s_M_reads_231 {G : Gx} {X : Cx} {res : A_W} (K : Ok G X 4 c_M_reads 1 (none) rm_M_reads) (hQ : QQ G X none res 0 0) (t : Nat) (y0 : Nat) (y1 : Int32) (w : A_W) (h : F_M_reads_231 t y0 y1 w = some res) : Sm G X w 0 0 [some (.ref t)] [.int y1, .ref y0] 231 := by
  unfold F_M_reads_231 at h
  obtain ⟨w1, e_w1, h⟩ := Option.bind_eq_some_iff.mp h
  refine Sm_pi K (eo ek_M_reads (i := 113) rfl) rfl rfl e_w1 ?_
  refine Sm_run K ek_M_reads 114 2 rfl ?_
  obtain ⟨v2, e_v2, h⟩ := Option.bind_eq_some_iff.mp h
  refine Sm_gi K (eo ek_M_reads (i := 116) rfl) e_v2 ?_
  refine Sm_run K ek_M_reads 117 2 rfl ?_
  obtain ⟨w3, e_w3, h⟩ := Option.bind_eq_some_iff.mp h
  refine Sm_pi K (eo ek_M_reads (i := 119) rfl) rfl rfl e_w3 ?_
  exact Sm_le (leR_n leR_nil) (s_M_reads_244 K hQ _ h)
set_option maxHeartbeats 4000000 in
set_option maxRecDepth 100000 in
theorem s_M_reads_0 {G : Gx} {X : Cx} {res : A_W} (K : Ok G X 4 c_M_reads 1 (none) rm_M_reads) (hQ : QQ G X none res 0 0) : ∀ (n : Nat) (t : Nat) (w : A_W), F_M_reads_0 n t w = some res → Sm G X w 0 0 [some (.ref t)] [] 0 := by
  intro n
  induction n with
  | zero => intro t w h; cases h
  | succ n ih =>
    intro t w h
    rw [F_M_reads_0] at h
    refine Sm_run K ek_M_reads 0 2 rfl ?_
    obtain ⟨v1, e_v1, h⟩ := Option.bind_eq_some_iff.mp h
    refine Sm_gi K (eo ek_M_reads (i := 2) rfl) e_v1 ?_
    refine Sm_run K ek_M_reads 3 2 rfl ?_
    obtain ⟨o3, e_o3, h⟩ := Option.bind_eq_some_iff.mp h
    obtain ⟨p2, e_p2, h⟩ := Option.bind_eq_some_iff.mp h
    refine Sm_callV K (eok_i (eo ek_M_reads (i := 5) rfl) rfl) cy_M_isByte im_M_isByte se_M_isByte (lgm 1113 (by decide +kernel) rfl) ⟨Nat.le_of_ble_eq_true rfl, Nat.le_of_ble_eq_true rfl⟩ (as := [.int v1, .int 32, .int 32]) (b := t) (st := []) (ob_e e_o3) (by decide) rfl rfl rfl rfl (Nat.le_of_ble_eq_true rfl) ⟨Nat.le_of_ble_eq_true rfl, Nat.le_of_ble_eq_true rfl⟩ (cn_M_isByte e_p2) ?_
    refine Sm_eq (st1 := .int p2.1 :: []) (nc1 := 0) (ns1 := 0) rfl rfl rfl ?_
    refine Sm_if_eq K (eo ek_M_reads (i := 6) rfl) (fun c4 => ?_) (fun c4 => ?_)
    · rw [if_pos c4] at h
      refine Sm_run K ek_M_reads 14 2 rfl ?_
      obtain ⟨v5, e_v5, h⟩ := Option.bind_eq_some_iff.mp h
      refine Sm_gi K (eo ek_M_reads (i := 16) rfl) e_v5 ?_
      obtain ⟨w6, e_w6, h⟩ := Option.bind_eq_some_iff.mp h
      refine Sm_pi K (eo ek_M_reads (i := 17) rfl) rfl rfl e_w6 ?_
      refine Sm_run K ek_M_reads 18 2 rfl ?_
      obtain ⟨w7, e_w7, h⟩ := Option.bind_eq_some_iff.mp h
      refine Sm_pi K (eo ek_M_reads (i := 20) rfl) rfl rfl e_w7 ?_
      refine Sm_run K ek_M_reads 21 1 rfl ?_
      obtain ⟨v8, e_v8, h⟩ := Option.bind_eq_some_iff.mp h
      refine Sm_gi K (eo ek_M_reads (i := 22) rfl) e_v8 ?_
      refine Sm_run K ek_M_reads 23 1 rfl ?_
      obtain ⟨v9, e_v9, h⟩ := Option.bind_eq_some_iff.mp h
      refine Sm_gi K (eo ek_M_reads (i := 24) rfl) e_v9 ?_
      refine Sm_ic_ne K (eo ek_M_reads (i := 25) rfl) (fun c10 => ?_) (fun c10 => ?_)
      · rw [if_neg c10] at h
        refine Sm_run K ek_M_reads 30 2 rfl ?_
        obtain ⟨v11, e_v11, h⟩ := Option.bind_eq_some_iff.mp h
        refine Sm_gi K (eo ek_M_reads (i := 32) rfl) e_v11 ?_
        refine Sm_run K ek_M_reads 33 2 rfl ?_
        obtain ⟨o13, e_o13, h⟩ := Option.bind_eq_some_iff.mp h
        obtain ⟨p12, e_p12, h⟩ := Option.bind_eq_some_iff.mp h
        refine Sm_callV K (eok_i (eo ek_M_reads (i := 35) rfl) rfl) cy_M_isByte im_M_isByte se_M_isByte (lgm 1113 (by decide +kernel) rfl) ⟨Nat.le_of_ble_eq_true rfl, Nat.le_of_ble_eq_true rfl⟩ (as := [.int v11, .int 97, .int 122]) (b := t) (st := []) (ob_e e_o13) (by decide) rfl rfl rfl rfl (Nat.le_of_ble_eq_true rfl) ⟨Nat.le_of_ble_eq_true rfl, Nat.le_of_ble_eq_true rfl⟩ (cn_M_isByte e_p12) ?_
        refine Sm_eq (st1 := .int p12.1 :: []) (nc1 := 0) (ns1 := 0) rfl rfl rfl ?_
        refine Sm_if_eq K (eo ek_M_reads (i := 36) rfl) (fun c14 => ?_) (fun c14 => ?_)
        · rw [if_pos c14] at h
          refine Sm_run K ek_M_reads 56 2 rfl ?_
          obtain ⟨v15, e_v15, h⟩ := Option.bind_eq_some_iff.mp h
          refine Sm_gi K (eo ek_M_reads (i := 58) rfl) e_v15 ?_
          refine Sm_run K ek_M_reads 59 2 rfl ?_
          obtain ⟨o17, e_o17, h⟩ := Option.bind_eq_some_iff.mp h
          obtain ⟨p16, e_p16, h⟩ := Option.bind_eq_some_iff.mp h
          refine Sm_callV K (eok_i (eo ek_M_reads (i := 61) rfl) rfl) cy_M_isByte im_M_isByte se_M_isByte (lgm 1113 (by decide +kernel) rfl) ⟨Nat.le_of_ble_eq_true rfl, Nat.le_of_ble_eq_true rfl⟩ (as := [.int v15, .int 48, .int 57]) (b := t) (st := []) (ob_e e_o17) (by decide) rfl rfl rfl rfl (Nat.le_of_ble_eq_true rfl) ⟨Nat.le_of_ble_eq_true rfl, Nat.le_of_ble_eq_true rfl⟩ (cn_M_isByte e_p16) ?_
          refine Sm_eq (st1 := .int p16.1 :: []) (nc1 := 0) (ns1 := 0) rfl rfl rfl ?_
          refine Sm_if_eq K (eo ek_M_reads (i := 62) rfl) (fun c18 => ?_) (fun c18 => ?_)
          · rw [if_pos c18] at h
            refine Sm_run K ek_M_reads 102 3 rfl ?_
            obtain ⟨v19, e_v19, h⟩ := Option.bind_eq_some_iff.mp h
            refine Sm_gi K (eo ek_M_reads (i := 105) rfl) e_v19 ?_
            refine Sm_run K ek_M_reads 106 2 rfl ?_
            obtain ⟨o21, e_o21, h⟩ := Option.bind_eq_some_iff.mp h
            obtain ⟨p20, e_p20, h⟩ := Option.bind_eq_some_iff.mp h
            refine Sm_callV K (eok_i (eo ek_M_reads (i := 108) rfl) rfl) cy_M_isByte im_M_isByte se_M_isByte (lgm 1113 (by decide +kernel) rfl) ⟨Nat.le_of_ble_eq_true rfl, Nat.le_of_ble_eq_true rfl⟩ (as := [.int v19, .int 59, .int 59]) (b := t) (st := [.ref t]) (ob_e e_o21) (by decide) rfl rfl rfl rfl (Nat.le_of_ble_eq_true rfl) ⟨Nat.le_of_ble_eq_true rfl, Nat.le_of_ble_eq_true rfl⟩ (cn_M_isByte e_p20) ?_
            refine Sm_eq (st1 := .int p20.1 :: [.ref t]) (nc1 := 0) (ns1 := 0) rfl rfl rfl ?_
            refine Sm_if_eq K (eo ek_M_reads (i := 109) rfl) (fun c22 => ?_) (fun c22 => ?_)
            · rw [if_pos c22] at h
              refine Sm_run K ek_M_reads 112 1 rfl ?_
              exact Sm_le (leR_s leR_nil) (s_M_reads_231 K hQ _ _ _ _ h)
            · rw [if_neg c22] at h
              refine Sm_run K ek_M_reads 110 2 rfl ?_
              exact Sm_le (leR_s leR_nil) (s_M_reads_231 K hQ _ _ _ _ h)
          · rw [if_neg c18] at h
            exact Sm_le (leR_s leR_nil) (s_M_reads_130 K hQ FU _ _ h)
        · rw [if_neg c14] at h
          exact Sm_le (leR_s leR_nil) (s_M_reads_76 K hQ FU _ _ h)
      · rw [if_pos c10] at h
        refine Sm_run K ek_M_reads 26 2 rfl ?_
        obtain ⟨w23, e_w23, h⟩ := Option.bind_eq_some_iff.mp h
        refine Sm_pi K (eo ek_M_reads (i := 28) rfl) rfl rfl e_w23 ?_
        refine Sm_run K ek_M_reads 29 1 rfl ?_
        exact Sm_le (leR_n leR_nil) (s_M_reads_244 K hQ _ h)
    · rw [if_neg c4] at h
      refine Sm_run K ek_M_reads 7 2 rfl ?_
      obtain ⟨v24, e_v24, h⟩ := Option.bind_eq_some_iff.mp h
      refine Sm_gi K (eo ek_M_reads (i := 9) rfl) e_v24 ?_
      refine Sm_run K ek_M_reads 10 2 rfl ?_
      obtain ⟨w25, e_w25, h⟩ := Option.bind_eq_some_iff.mp h
      refine Sm_pi K (eo ek_M_reads (i := 12) rfl) rfl rfl e_w25 ?_
      refine Sm_run K ek_M_reads 13 1 rfl ?_
      exact Sm_le (leR_s leR_nil) (ih _ _ h)
def F_M_reads (t : Nat) (w : A_W) : Option (A_W) := F_M_reads_0 FU t w
theorem cn_M_reads {G : Gx} {t : Nat} {w : A_W} {res : A_W} (h : F_M_reads t w = some res) : Cn G y_M_reads c_M_reads 1 (none) rm_M_reads [.ref t] w none res :=
  Cn_of (own := 4) cy_M_reads rfl rfl (Nat.le_of_ble_eq_true rfl) rfl (fun X K _ hQ => Sm_le (leR_s leR_nil) (s_M_reads_0 K hQ FU _ _ h))
/-! EveningCloakModel.takes(I)Z -/
abbrev c_M_takes : ByteArray := prog_6_method_80_code
def y_M_takes : MethodName := ⟨"EveningCloakModel", "takes", "(I)Z"⟩
def rm_M_takes : Room := { frames := 3, cells := 0, slots := 0, locals := 65 }
theorem cy_M_takes : Cy y_M_takes c_M_takes 2 (some .boolean) 1 := ⟨lgm 1142 (by decide +kernel) rfl, lgm 73 (by decide +kernel) rfl, by decide +kernel, by decide +kernel⟩
theorem im_M_takes : Cond.instanceMethod y_M_takes ∈ lg := lgm 1141 (by decide +kernel) rfl
theorem se_M_takes : Cond.selects y_M_takes.cls y_M_takes y_M_takes ∈ lg := lgm 61 (by decide +kernel) rfl
def e_M_takes : List Ent := [
  (0, .aload_n 0, 1, 1, .null, 0, 0, 0),
  (1, .getfield 217, 3, 4, .null, 4, 14, 776),
  (4, .ifCond .ne 11, 3, 15, .null, 0, 0, 0),
  (7, .aload_n 0, 1, 8, .null, 0, 0, 0),
  (8, .getfield 211, 3, 11, .null, 4, 10, 772),
  (11, .iload_n 1, 1, 12, .null, 0, 0, 0),
  (12, .if_icmp .eq 5, 3, 17, .null, 0, 0, 0),
  (15, .iconst 0, 1, 16, .int 0, 0, 0, 0),
  (16, .ireturn, 1, 17, .null, 0, 0, 0),
  (17, .aload_n 0, 1, 18, .null, 0, 0, 0),
  (18, .invokevirtual 221, 3, 21, .null, 0, 0, 0),
  (21, .iconst 1, 1, 22, .int 1, 0, 0, 0),
  (22, .ireturn, 1, 23, .null, 0, 0, 0)]
set_option maxRecDepth 100000 in
theorem ek_M_takes : e_M_takes.all (eok 4 c_M_takes) = true := by decide +kernel
def F_M_takes_15 (w : A_W) : Option (Int32 × A_W) :=
  (bz 0).bind fun b1 =>
  some (b1, w)
def F_M_takes_0 (t : Nat) (x1 : Int32) (w : A_W) : Option (Int32 × A_W) :=
  (gi w t 4 14).bind fun v1 =>
  if v1 = 0 then
    (gi w t 4 10).bind fun v3 =>
    if v3 = x1 then
      (ob w t 4).bind fun o6 =>
      (F_M_reads t w).bind fun p5 =>
      (bz 1).bind fun b7 =>
      some (b7, p5)
    else
      F_M_takes_15 w
  else
    F_M_takes_15 w
set_option maxHeartbeats 4000000 in
set_option maxRecDepth 100000 in
theorem s_M_takes_15 {G : Gx} {X : Cx} {res : Int32 × A_W} (K : Ok G X 4 c_M_takes 2 (some .boolean) rm_M_takes) (hQ : QQ G X (some (.int res.1)) res.2 0 0) (w : A_W) (h : F_M_takes_15 w = some res) : Sm G X w 0 0 [none, none] [] 15 := by
  unfold F_M_takes_15 at h
  refine Sm_run K ek_M_takes 7 1 rfl ?_
  obtain ⟨b1, e_b1, h⟩ := Option.bind_eq_some_iff.mp h
  obtain rfl := Option.some.inj h
  exact Sm_retz K e_b1 hQ (eok_i (eo ek_M_takes (i := 8) rfl) rfl)
set_option maxHeartbeats 4000000 in
set_option maxRecDepth 100000 in
theorem s_M_takes_0 {G : Gx} {X : Cx} {res : Int32 × A_W} (K : Ok G X 4 c_M_takes 2 (some .boolean) rm_M_takes) (hQ : QQ G X (some (.int res.1)) res.2 0 0) (t : Nat) (x1 : Int32) (w : A_W) (h : F_M_takes_0 t x1 w = some res) : Sm G X w 0 0 [some (.ref t), some (.int x1)] [] 0 := by
  unfold F_M_takes_0 at h
  refine Sm_run K ek_M_takes 0 1 rfl ?_
  obtain ⟨v1, e_v1, h⟩ := Option.bind_eq_some_iff.mp h
  refine Sm_gi K (eo ek_M_takes (i := 1) rfl) e_v1 ?_
  refine Sm_if_ne K (eo ek_M_takes (i := 2) rfl) (fun c2 => ?_) (fun c2 => ?_)
  · rw [if_neg c2] at h
    exact Sm_le (leR_n (leR_n leR_nil)) (s_M_takes_15 K hQ _ h)
  · rw [if_pos c2] at h
    refine Sm_run K ek_M_takes 3 1 rfl ?_
    obtain ⟨v3, e_v3, h⟩ := Option.bind_eq_some_iff.mp h
    refine Sm_gi K (eo ek_M_takes (i := 4) rfl) e_v3 ?_
    refine Sm_run K ek_M_takes 5 1 rfl ?_
    refine Sm_ic_eq K (eo ek_M_takes (i := 6) rfl) (fun c4 => ?_) (fun c4 => ?_)
    · rw [if_pos c4] at h
      refine Sm_run K ek_M_takes 9 1 rfl ?_
      obtain ⟨o6, e_o6, h⟩ := Option.bind_eq_some_iff.mp h
      obtain ⟨p5, e_p5, h⟩ := Option.bind_eq_some_iff.mp h
      refine Sm_callV K (eok_i (eo ek_M_takes (i := 10) rfl) rfl) cy_M_reads im_M_reads se_M_reads (lgm 1109 (by decide +kernel) rfl) ⟨Nat.le_of_ble_eq_true rfl, Nat.le_of_ble_eq_true rfl⟩ (as := []) (b := t) (st := []) (ob_e e_o6) (by decide) rfl rfl rfl rfl (Nat.le_of_ble_eq_true rfl) ⟨Nat.le_of_ble_eq_true rfl, Nat.le_of_ble_eq_true rfl⟩ (cn_M_reads e_p5) ?_
      refine Sm_eq (st1 := []) (nc1 := 0) (ns1 := 0) rfl rfl rfl ?_
      refine Sm_run K ek_M_takes 11 1 rfl ?_
      obtain ⟨b7, e_b7, h⟩ := Option.bind_eq_some_iff.mp h
      obtain rfl := Option.some.inj h
      exact Sm_retz K e_b7 hQ (eok_i (eo ek_M_takes (i := 12) rfl) rfl)
    · rw [if_neg c4] at h
      exact Sm_le (leR_n (leR_n leR_nil)) (s_M_takes_15 K hQ _ h)
def F_M_takes (t : Nat) (x1 : Int32) (w : A_W) : Option (Int32 × A_W) := F_M_takes_0 t x1 w
theorem cn_M_takes {G : Gx} {t : Nat} {x1 : Int32} {w : A_W} {res : Int32 × A_W} (h : F_M_takes t x1 w = some res) : Cn G y_M_takes c_M_takes 2 (some .boolean) rm_M_takes [.ref t, .int x1] w (some (.int res.1)) res.2 :=
  Cn_of (own := 4) cy_M_takes rfl rfl (Nat.le_of_ble_eq_true rfl) rfl (fun X K _ hQ => Sm_le (leR_s (leR_s leR_nil)) (s_M_takes_0 K hQ _ _ _ h))
/-! EveningCloakModel.number(II)I -/
abbrev c_M_number : ByteArray := prog_6_method_81_code
def y_M_number : MethodName := ⟨"EveningCloakModel", "number", "(II)I"⟩
def rm_M_number : Room := { frames := 3, cells := 0, slots := 0, locals := 65 }
theorem cy_M_number : Cy y_M_number c_M_number 4 (some .int) 2 := ⟨lgm 1146 (by decide +kernel) rfl, lgm 73 (by decide +kernel) rfl, by decide +kernel, by decide +kernel⟩
theorem im_M_number : Cond.instanceMethod y_M_number ∈ lg := lgm 1145 (by decide +kernel) rfl
theorem se_M_number : Cond.selects y_M_number.cls y_M_number y_M_number ∈ lg := lgm 62 (by decide +kernel) rfl
def e_M_number : List Ent := [
  (0, .aload_n 0, 1, 1, .null, 0, 0, 0),
  (1, .getfield 208, 3, 4, .null, 4, 13, 775),
  (4, .istore_n 3, 1, 5, .null, 0, 0, 0),
  (5, .aload_n 0, 1, 6, .null, 0, 0, 0),
  (6, .aload_n 0, 1, 7, .null, 0, 0, 0),
  (7, .getfield 217, 3, 10, .null, 4, 14, 776),
  (10, .ifCond .ne 21, 3, 31, .null, 0, 0, 0),
  (13, .aload_n 0, 1, 14, .null, 0, 0, 0),
  (14, .getfield 211, 3, 17, .null, 4, 10, 772),
  (17, .bipush 20, 2, 19, .int 20, 0, 0, 0),
  (19, .if_icmp .ne 12, 3, 31, .null, 0, 0, 0),
  (22, .iload_n 3, 1, 23, .null, 0, 0, 0),
  (23, .iload_n 1, 1, 24, .null, 0, 0, 0),
  (24, .iload_n 2, 1, 25, .null, 0, 0, 0),
  (25, .invokestatic 40, 3, 28, .null, 0, 0, 0),
  (28, .ifCond .ne 7, 3, 35, .null, 0, 0, 0),
  (31, .iconst 1, 1, 32, .int 1, 0, 0, 0),
  (32, .goto 4, 3, 36, .null, 0, 0, 0),
  (35, .iconst 0, 1, 36, .int 0, 0, 0, 0),
  (36, .putfield 217, 3, 39, .null, 4, 14, 776),
  (39, .aload_n 0, 1, 40, .null, 0, 0, 0),
  (40, .getfield 217, 3, 43, .null, 4, 14, 776),
  (43, .ifCond .ne 7, 3, 50, .null, 0, 0, 0),
  (46, .aload_n 0, 1, 47, .null, 0, 0, 0),
  (47, .invokevirtual 221, 3, 50, .null, 0, 0, 0),
  (50, .iload_n 3, 1, 51, .null, 0, 0, 0),
  (51, .ireturn, 1, 52, .null, 0, 0, 0)]
set_option maxRecDepth 100000 in
theorem ek_M_number : e_M_number.all (eok 4 c_M_number) = true := by decide +kernel
def F_M_number_50 (x3 : Int32) (w : A_W) : Option (Int32 × A_W) :=
  some (x3, w)
def F_M_number_36 (t : Nat) (x3 : Int32) (y0 : Nat) (y1 : Int32) (w : A_W) : Option (Int32 × A_W) :=
  (bz y1).bind fun b2 =>
  (pf w y0 4 14 (.int b2)).bind fun w1 =>
  (gi w1 t 4 14).bind fun v3 =>
  if v3 = 0 then
    (ob w1 t 4).bind fun o6 =>
    (F_M_reads t w1).bind fun p5 =>
    F_M_number_50 x3 p5
  else
    F_M_number_50 x3 w1
def F_M_number_31 (t : Nat) (x3 : Int32) (y0 : Nat) (w : A_W) : Option (Int32 × A_W) :=
  F_M_number_36 t x3 y0 1 w
def F_M_number_0 (t : Nat) (x1 : Int32) (x2 : Int32) (w : A_W) : Option (Int32 × A_W) :=
  (gi w t 4 13).bind fun v1 =>
  (gi w t 4 14).bind fun v2 =>
  if v2 = 0 then
    (gi w t 4 10).bind fun v4 =>
    if v4 = 20 then
      (F_M_in v1 x1 x2 w).bind fun p6 =>
      if p6.1 = 0 then
        F_M_number_31 t v1 t p6.2
      else
        F_M_number_36 t v1 t 0 p6.2
    else
      F_M_number_31 t v1 t w
  else
    F_M_number_31 t v1 t w
set_option maxHeartbeats 4000000 in
set_option maxRecDepth 100000 in
theorem s_M_number_50 {G : Gx} {X : Cx} {res : Int32 × A_W} (K : Ok G X 4 c_M_number 4 (some .int) rm_M_number) (hQ : QQ G X (some (.int res.1)) res.2 0 0) (x3 : Int32) (w : A_W) (h : F_M_number_50 x3 w = some res) : Sm G X w 0 0 [none, none, none, some (.int x3)] [] 50 := by
  unfold F_M_number_50 at h
  refine Sm_run K ek_M_number 25 1 rfl ?_
  obtain rfl := Option.some.inj h
  exact Sm_reti K hQ (eok_i (eo ek_M_number (i := 26) rfl) rfl)
set_option maxHeartbeats 4000000 in
set_option maxRecDepth 100000 in
theorem s_M_number_36 {G : Gx} {X : Cx} {res : Int32 × A_W} (K : Ok G X 4 c_M_number 4 (some .int) rm_M_number) (hQ : QQ G X (some (.int res.1)) res.2 0 0) (t : Nat) (x3 : Int32) (y0 : Nat) (y1 : Int32) (w : A_W) (h : F_M_number_36 t x3 y0 y1 w = some res) : Sm G X w 0 0 [some (.ref t), none, none, some (.int x3)] [.int y1, .ref y0] 36 := by
  unfold F_M_number_36 at h
  obtain ⟨b2, e_b2, h⟩ := Option.bind_eq_some_iff.mp h
  obtain ⟨w1, e_w1, h⟩ := Option.bind_eq_some_iff.mp h
  refine Sm_pz K (eo ek_M_number (i := 19) rfl) rfl rfl e_b2 e_w1 ?_
  refine Sm_run K ek_M_number 20 1 rfl ?_
  obtain ⟨v3, e_v3, h⟩ := Option.bind_eq_some_iff.mp h
  refine Sm_gi K (eo ek_M_number (i := 21) rfl) e_v3 ?_
  refine Sm_if_ne K (eo ek_M_number (i := 22) rfl) (fun c4 => ?_) (fun c4 => ?_)
  · rw [if_neg c4] at h
    exact Sm_le (leR_n (leR_n (leR_n (leR_s leR_nil)))) (s_M_number_50 K hQ _ _ h)
  · rw [if_pos c4] at h
    refine Sm_run K ek_M_number 23 1 rfl ?_
    obtain ⟨o6, e_o6, h⟩ := Option.bind_eq_some_iff.mp h
    obtain ⟨p5, e_p5, h⟩ := Option.bind_eq_some_iff.mp h
    refine Sm_callV K (eok_i (eo ek_M_number (i := 24) rfl) rfl) cy_M_reads im_M_reads se_M_reads (lgm 1109 (by decide +kernel) rfl) ⟨Nat.le_of_ble_eq_true rfl, Nat.le_of_ble_eq_true rfl⟩ (as := []) (b := t) (st := []) (ob_e e_o6) (by decide) rfl rfl rfl rfl (Nat.le_of_ble_eq_true rfl) ⟨Nat.le_of_ble_eq_true rfl, Nat.le_of_ble_eq_true rfl⟩ (cn_M_reads e_p5) ?_
    refine Sm_eq (st1 := []) (nc1 := 0) (ns1 := 0) rfl rfl rfl ?_
    exact Sm_le (leR_n (leR_n (leR_n (leR_s leR_nil)))) (s_M_number_50 K hQ _ _ h)
set_option maxHeartbeats 4000000 in
set_option maxRecDepth 100000 in
theorem s_M_number_31 {G : Gx} {X : Cx} {res : Int32 × A_W} (K : Ok G X 4 c_M_number 4 (some .int) rm_M_number) (hQ : QQ G X (some (.int res.1)) res.2 0 0) (t : Nat) (x3 : Int32) (y0 : Nat) (w : A_W) (h : F_M_number_31 t x3 y0 w = some res) : Sm G X w 0 0 [some (.ref t), none, none, some (.int x3)] [.ref y0] 31 := by
  unfold F_M_number_31 at h
  refine Sm_run K ek_M_number 16 2 rfl ?_
  exact Sm_le (leR_s (leR_n (leR_n (leR_s leR_nil)))) (s_M_number_36 K hQ _ _ _ _ _ h)
set_option maxHeartbeats 4000000 in
set_option maxRecDepth 100000 in
theorem s_M_number_0 {G : Gx} {X : Cx} {res : Int32 × A_W} (K : Ok G X 4 c_M_number 4 (some .int) rm_M_number) (hQ : QQ G X (some (.int res.1)) res.2 0 0) (t : Nat) (x1 : Int32) (x2 : Int32) (w : A_W) (h : F_M_number_0 t x1 x2 w = some res) : Sm G X w 0 0 [some (.ref t), some (.int x1), some (.int x2), none] [] 0 := by
  unfold F_M_number_0 at h
  refine Sm_run K ek_M_number 0 1 rfl ?_
  obtain ⟨v1, e_v1, h⟩ := Option.bind_eq_some_iff.mp h
  refine Sm_gi K (eo ek_M_number (i := 1) rfl) e_v1 ?_
  refine Sm_run K ek_M_number 2 3 rfl ?_
  obtain ⟨v2, e_v2, h⟩ := Option.bind_eq_some_iff.mp h
  refine Sm_gi K (eo ek_M_number (i := 5) rfl) e_v2 ?_
  refine Sm_if_ne K (eo ek_M_number (i := 6) rfl) (fun c3 => ?_) (fun c3 => ?_)
  · rw [if_neg c3] at h
    exact Sm_le (leR_s (leR_n (leR_n (leR_s leR_nil)))) (s_M_number_31 K hQ _ _ _ _ h)
  · rw [if_pos c3] at h
    refine Sm_run K ek_M_number 7 1 rfl ?_
    obtain ⟨v4, e_v4, h⟩ := Option.bind_eq_some_iff.mp h
    refine Sm_gi K (eo ek_M_number (i := 8) rfl) e_v4 ?_
    refine Sm_run K ek_M_number 9 1 rfl ?_
    refine Sm_ic_ne K (eo ek_M_number (i := 10) rfl) (fun c5 => ?_) (fun c5 => ?_)
    · rw [if_neg c5] at h
      exact Sm_le (leR_s (leR_n (leR_n (leR_s leR_nil)))) (s_M_number_31 K hQ _ _ _ _ h)
    · rw [if_pos c5] at h
      refine Sm_run K ek_M_number 11 3 rfl ?_
      obtain ⟨p6, e_p6, h⟩ := Option.bind_eq_some_iff.mp h
      refine Sm_callS K (eok_i (eo ek_M_number (i := 14) rfl) rfl) cy_M_in st_M_in (lgm 815 (by decide +kernel) rfl) ⟨Nat.le_of_ble_eq_true rfl, Nat.le_of_ble_eq_true rfl⟩ (as := [.int v1, .int x1, .int x2]) (st := [.ref t]) rfl rfl rfl (Nat.le_of_ble_eq_true rfl) ⟨Nat.le_of_ble_eq_true rfl, Nat.le_of_ble_eq_true rfl⟩ (cn_M_in e_p6) ?_
      refine Sm_eq (st1 := .int p6.1 :: [.ref t]) (nc1 := 0) (ns1 := 0) rfl rfl rfl ?_
      refine Sm_if_ne K (eo ek_M_number (i := 15) rfl) (fun c7 => ?_) (fun c7 => ?_)
      · rw [if_neg c7] at h
        refine Sm_run K ek_M_number 18 1 rfl ?_
        exact Sm_le (leR_s (leR_n (leR_n (leR_s leR_nil)))) (s_M_number_36 K hQ _ _ _ _ _ h)
      · rw [if_pos c7] at h
        exact Sm_le (leR_s (leR_n (leR_n (leR_s leR_nil)))) (s_M_number_31 K hQ _ _ _ _ h)
def F_M_number (t : Nat) (x1 : Int32) (x2 : Int32) (w : A_W) : Option (Int32 × A_W) := F_M_number_0 t x1 x2 w
theorem cn_M_number {G : Gx} {t : Nat} {x1 : Int32} {x2 : Int32} {w : A_W} {res : Int32 × A_W} (h : F_M_number t x1 x2 w = some res) : Cn G y_M_number c_M_number 4 (some .int) rm_M_number [.ref t, .int x1, .int x2] w (some (.int res.1)) res.2 :=
  Cn_of (own := 4) cy_M_number rfl rfl (Nat.le_of_ble_eq_true rfl) rfl (fun X K _ hQ => Sm_le (leR_s (leR_s (leR_s (leR_n leR_nil)))) (s_M_number_0 K hQ _ _ _ _ h))
/-! EveningCloakModel.perhaps(IIII)I -/
abbrev c_M_perhaps : ByteArray := prog_6_method_82_code
def y_M_perhaps : MethodName := ⟨"EveningCloakModel", "perhaps", "(IIII)I"⟩
def rm_M_perhaps : Room := { frames := 4, cells := 0, slots := 0, locals := 88 }
theorem cy_M_perhaps : Cy y_M_perhaps c_M_perhaps 5 (some .int) 4 := ⟨lgm 1138 (by decide +kernel) rfl, lgm 73 (by decide +kernel) rfl, by decide +kernel, by decide +kernel⟩
theorem im_M_perhaps : Cond.instanceMethod y_M_perhaps ∈ lg := lgm 1137 (by decide +kernel) rfl
theorem se_M_perhaps : Cond.selects y_M_perhaps.cls y_M_perhaps y_M_perhaps ∈ lg := lgm 60 (by decide +kernel) rfl
def e_M_perhaps : List Ent := [
  (0, .aload_n 0, 1, 1, .null, 0, 0, 0),
  (1, .iload_n 1, 1, 2, .null, 0, 0, 0),
  (2, .invokevirtual 224, 3, 5, .null, 0, 0, 0),
  (5, .ifCond .eq 12, 3, 17, .null, 0, 0, 0),
  (8, .aload_n 0, 1, 9, .null, 0, 0, 0),
  (9, .iload_n 2, 1, 10, .null, 0, 0, 0),
  (10, .iload_n 3, 1, 11, .null, 0, 0, 0),
  (11, .invokevirtual 227, 3, 14, .null, 0, 0, 0),
  (14, .goto 5, 3, 19, .null, 0, 0, 0),
  (17, .iload 4, 2, 19, .null, 0, 0, 0),
  (19, .ireturn, 1, 20, .null, 0, 0, 0)]
set_option maxRecDepth 100000 in
theorem ek_M_perhaps : e_M_perhaps.all (eok 4 c_M_perhaps) = true := by decide +kernel
def F_M_perhaps_19 (y0 : Int32) (w : A_W) : Option (Int32 × A_W) :=
  some (y0, w)
def F_M_perhaps_0 (t : Nat) (x1 : Int32) (x2 : Int32) (x3 : Int32) (x4 : Int32) (w : A_W) : Option (Int32 × A_W) :=
  (ob w t 4).bind fun o2 =>
  (F_M_takes t x1 w).bind fun p1 =>
  if p1.1 = 0 then
    F_M_perhaps_19 x4 p1.2
  else
    (ob p1.2 t 4).bind fun o5 =>
    (F_M_number t x2 x3 p1.2).bind fun p4 =>
    F_M_perhaps_19 p4.1 p4.2
set_option maxHeartbeats 4000000 in
set_option maxRecDepth 100000 in
theorem s_M_perhaps_19 {G : Gx} {X : Cx} {res : Int32 × A_W} (K : Ok G X 4 c_M_perhaps 5 (some .int) rm_M_perhaps) (hQ : QQ G X (some (.int res.1)) res.2 0 0) (y0 : Int32) (w : A_W) (h : F_M_perhaps_19 y0 w = some res) : Sm G X w 0 0 [none, none, none, none, none] [.int y0] 19 := by
  unfold F_M_perhaps_19 at h
  obtain rfl := Option.some.inj h
  exact Sm_reti K hQ (eok_i (eo ek_M_perhaps (i := 10) rfl) rfl)
set_option maxHeartbeats 4000000 in
set_option maxRecDepth 100000 in
theorem s_M_perhaps_0 {G : Gx} {X : Cx} {res : Int32 × A_W} (K : Ok G X 4 c_M_perhaps 5 (some .int) rm_M_perhaps) (hQ : QQ G X (some (.int res.1)) res.2 0 0) (t : Nat) (x1 : Int32) (x2 : Int32) (x3 : Int32) (x4 : Int32) (w : A_W) (h : F_M_perhaps_0 t x1 x2 x3 x4 w = some res) : Sm G X w 0 0 [some (.ref t), some (.int x1), some (.int x2), some (.int x3), some (.int x4)] [] 0 := by
  unfold F_M_perhaps_0 at h
  refine Sm_run K ek_M_perhaps 0 2 rfl ?_
  obtain ⟨o2, e_o2, h⟩ := Option.bind_eq_some_iff.mp h
  obtain ⟨p1, e_p1, h⟩ := Option.bind_eq_some_iff.mp h
  refine Sm_callV K (eok_i (eo ek_M_perhaps (i := 2) rfl) rfl) cy_M_takes im_M_takes se_M_takes (lgm 1139 (by decide +kernel) rfl) ⟨Nat.le_of_ble_eq_true rfl, Nat.le_of_ble_eq_true rfl⟩ (as := [.int x1]) (b := t) (st := []) (ob_e e_o2) (by decide) rfl rfl rfl rfl (Nat.le_of_ble_eq_true rfl) ⟨Nat.le_of_ble_eq_true rfl, Nat.le_of_ble_eq_true rfl⟩ (cn_M_takes e_p1) ?_
  refine Sm_eq (st1 := .int p1.1 :: []) (nc1 := 0) (ns1 := 0) rfl rfl rfl ?_
  refine Sm_if_eq K (eo ek_M_perhaps (i := 3) rfl) (fun c3 => ?_) (fun c3 => ?_)
  · rw [if_pos c3] at h
    refine Sm_run K ek_M_perhaps 9 1 rfl ?_
    exact Sm_le (leR_n (leR_n (leR_n (leR_n (leR_n leR_nil))))) (s_M_perhaps_19 K hQ _ _ h)
  · rw [if_neg c3] at h
    refine Sm_run K ek_M_perhaps 4 3 rfl ?_
    obtain ⟨o5, e_o5, h⟩ := Option.bind_eq_some_iff.mp h
    obtain ⟨p4, e_p4, h⟩ := Option.bind_eq_some_iff.mp h
    refine Sm_callV K (eok_i (eo ek_M_perhaps (i := 7) rfl) rfl) cy_M_number im_M_number se_M_number (lgm 1143 (by decide +kernel) rfl) ⟨Nat.le_of_ble_eq_true rfl, Nat.le_of_ble_eq_true rfl⟩ (as := [.int x2, .int x3]) (b := t) (st := []) (ob_e e_o5) (by decide) rfl rfl rfl rfl (Nat.le_of_ble_eq_true rfl) ⟨Nat.le_of_ble_eq_true rfl, Nat.le_of_ble_eq_true rfl⟩ (cn_M_number e_p4) ?_
    refine Sm_eq (st1 := .int p4.1 :: []) (nc1 := 0) (ns1 := 0) rfl rfl rfl ?_
    refine Sm_run K ek_M_perhaps 8 1 rfl ?_
    exact Sm_le (leR_n (leR_n (leR_n (leR_n (leR_n leR_nil))))) (s_M_perhaps_19 K hQ _ _ h)
def F_M_perhaps (t : Nat) (x1 : Int32) (x2 : Int32) (x3 : Int32) (x4 : Int32) (w : A_W) : Option (Int32 × A_W) := F_M_perhaps_0 t x1 x2 x3 x4 w
theorem cn_M_perhaps {G : Gx} {t : Nat} {x1 : Int32} {x2 : Int32} {x3 : Int32} {x4 : Int32} {w : A_W} {res : Int32 × A_W} (h : F_M_perhaps t x1 x2 x3 x4 w = some res) : Cn G y_M_perhaps c_M_perhaps 5 (some .int) rm_M_perhaps [.ref t, .int x1, .int x2, .int x3, .int x4] w (some (.int res.1)) res.2 :=
  Cn_of (own := 4) cy_M_perhaps rfl rfl (Nat.le_of_ble_eq_true rfl) rfl (fun X K _ hQ => Sm_le (leR_s (leR_s (leR_s (leR_s (leR_s leR_nil))))) (s_M_perhaps_0 K hQ _ _ _ _ _ _ h))
/-! EveningCloakModel.depositItem()V -/
abbrev c_M_depositItem : ByteArray := prog_6_method_83_code
def y_M_depositItem : MethodName := ⟨"EveningCloakModel", "depositItem", "()V"⟩
def rm_M_depositItem : Room := { frames := 5, cells := 0, slots := 0, locals := 112 }
theorem cy_M_depositItem : Cy y_M_depositItem c_M_depositItem 8 (none) 0 := ⟨lgm 1134 (by decide +kernel) rfl, lgm 73 (by decide +kernel) rfl, by decide +kernel, by decide +kernel⟩
theorem im_M_depositItem : Cond.instanceMethod y_M_depositItem ∈ lg := lgm 1133 (by decide +kernel) rfl
theorem se_M_depositItem : Cond.selects y_M_depositItem.cls y_M_depositItem y_M_depositItem ∈ lg := lgm 59 (by decide +kernel) rfl
def e_M_depositItem : List Ent := [
  (0, .aload_n 0, 1, 1, .null, 0, 0, 0),
  (1, .getfield 211, 3, 4, .null, 4, 10, 772),
  (4, .istore_n 1, 1, 5, .null, 0, 0, 0),
  (5, .aload_n 0, 1, 6, .null, 0, 0, 0),
  (6, .aload_n 0, 1, 7, .null, 0, 0, 0),
  (7, .getfield 9, 3, 10, .null, 4, 0, 762),
  (10, .iconst 3, 1, 11, .int 3, 0, 0, 0),
  (11, .iaload, 1, 12, .null, 0, 0, 0),
  (12, .bipush 8, 2, 14, .int 8, 0, 0, 0),
  (14, .if_icmp .ne 7, 3, 21, .null, 0, 0, 0),
  (17, .iconst 1, 1, 18, .int 1, 0, 0, 0),
  (18, .goto 4, 3, 22, .null, 0, 0, 0),
  (21, .iconst 0, 1, 22, .int 0, 0, 0, 0),
  (22, .putfield 217, 3, 25, .null, 4, 14, 776),
  (25, .aload_n 0, 1, 26, .null, 0, 0, 0),
  (26, .getfield 217, 3, 29, .null, 4, 14, 776),
  (29, .ifCond .eq 4, 3, 33, .null, 0, 0, 0),
  (32, .return_, 1, 33, .null, 0, 0, 0),
  (33, .aload_n 0, 1, 34, .null, 0, 0, 0),
  (34, .invokevirtual 221, 3, 37, .null, 0, 0, 0),
  (37, .aload_n 0, 1, 38, .null, 0, 0, 0),
  (38, .bipush 7, 2, 40, .int 7, 0, 0, 0),
  (40, .iconst 0, 1, 41, .int 0, 0, 0, 0),
  (41, .bipush 15, 2, 43, .int 15, 0, 0, 0),
  (43, .iconst 0, 1, 44, .int 0, 0, 0, 0),
  (44, .invokevirtual 230, 3, 47, .null, 0, 0, 0),
  (47, .istore_n 2, 1, 48, .null, 0, 0, 0),
  (48, .aload_n 0, 1, 49, .null, 0, 0, 0),
  (49, .bipush 8, 2, 51, .int 8, 0, 0, 0),
  (51, .iconst 0, 1, 52, .int 0, 0, 0, 0),
  (52, .bipush 99, 2, 54, .int 99, 0, 0, 0),
  (54, .iconst (-1), 1, 55, .int (-1), 0, 0, 0),
  (55, .invokevirtual 230, 3, 58, .null, 0, 0, 0),
  (58, .istore_n 3, 1, 59, .null, 0, 0, 0),
  (59, .aload_n 0, 1, 60, .null, 0, 0, 0),
  (60, .bipush 9, 2, 62, .int 9, 0, 0, 0),
  (62, .iconst 0, 1, 63, .int 0, 0, 0, 0),
  (63, .sipush 9999, 3, 66, .int 9999, 0, 0, 0),
  (66, .iconst 0, 1, 67, .int 0, 0, 0, 0),
  (67, .invokevirtual 230, 3, 70, .null, 0, 0, 0),
  (70, .istore 4, 2, 72, .null, 0, 0, 0),
  (72, .aload_n 0, 1, 73, .null, 0, 0, 0),
  (73, .bipush 10, 2, 75, .int 10, 0, 0, 0),
  (75, .iconst 0, 1, 76, .int 0, 0, 0, 0),
  (76, .bipush 99, 2, 78, .int 99, 0, 0, 0),
  (78, .iconst 0, 1, 79, .int 0, 0, 0, 0),
  (79, .invokevirtual 230, 3, 82, .null, 0, 0, 0),
  (82, .istore 5, 2, 84, .null, 0, 0, 0),
  (84, .aload_n 0, 1, 85, .null, 0, 0, 0),
  (85, .bipush 11, 2, 87, .int 11, 0, 0, 0),
  (87, .invokevirtual 224, 3, 90, .null, 0, 0, 0),
  (90, .ifCond .eq 7, 3, 97, .null, 0, 0, 0),
  (93, .iconst 1, 1, 94, .int 1, 0, 0, 0),
  (94, .goto 4, 3, 98, .null, 0, 0, 0),
  (97, .iconst 0, 1, 98, .int 0, 0, 0, 0),
  (98, .istore 6, 2, 100, .null, 0, 0, 0),
  (100, .aload_n 0, 1, 101, .null, 0, 0, 0),
  (101, .getfield 217, 3, 104, .null, 4, 14, 776),
  (104, .ifCond .ne 39, 3, 143, .null, 0, 0, 0),
  (107, .aload_n 0, 1, 108, .null, 0, 0, 0),
  (108, .iload_n 1, 1, 109, .null, 0, 0, 0),
  (109, .iload_n 2, 1, 110, .null, 0, 0, 0),
  (110, .iload_n 3, 1, 111, .null, 0, 0, 0),
  (111, .invokevirtual 79, 3, 114, .null, 0, 0, 0),
  (114, .istore 7, 2, 116, .null, 0, 0, 0),
  (116, .aload_n 0, 1, 117, .null, 0, 0, 0),
  (117, .iload 7, 2, 119, .null, 0, 0, 0),
  (119, .iconst 3, 1, 120, .int 3, 0, 0, 0),
  (120, .iload 4, 2, 122, .null, 0, 0, 0),
  (122, .invokevirtual 74, 3, 125, .null, 0, 0, 0),
  (125, .aload_n 0, 1, 126, .null, 0, 0, 0),
  (126, .iload 7, 2, 128, .null, 0, 0, 0),
  (128, .iconst 4, 1, 129, .int 4, 0, 0, 0),
  (129, .iload 5, 2, 131, .null, 0, 0, 0),
  (131, .invokevirtual 74, 3, 134, .null, 0, 0, 0),
  (134, .aload_n 0, 1, 135, .null, 0, 0, 0),
  (135, .iload 7, 2, 137, .null, 0, 0, 0),
  (137, .iconst 5, 1, 138, .int 5, 0, 0, 0),
  (138, .iload 6, 2, 140, .null, 0, 0, 0),
  (140, .invokevirtual 74, 3, 143, .null, 0, 0, 0),
  (143, .return_, 1, 144, .null, 0, 0, 0)]
set_option maxRecDepth 100000 in
theorem ek_M_depositItem : e_M_depositItem.all (eok 4 c_M_depositItem) = true := by decide +kernel
def F_M_depositItem_143 (w : A_W) : Option (A_W) :=
  some w
def F_M_depositItem_98 (t : Nat) (x1 : Int32) (x2 : Int32) (x3 : Int32) (x4 : Int32) (x5 : Int32) (y0 : Int32) (w : A_W) : Option (A_W) :=
  (gi w t 4 14).bind fun v1 =>
  if v1 = 0 then
    (ob w t 4).bind fun o4 =>
    (F_M_comes t x1 x2 x3 w).bind fun p3 =>
    (ob p3.2 t 4).bind fun o6 =>
    (F_M_put t p3.1 3 x4 p3.2).bind fun p5 =>
    (ob p5 t 4).bind fun o8 =>
    (F_M_put t p3.1 4 x5 p5).bind fun p7 =>
    (ob p7 t 4).bind fun o10 =>
    (F_M_put t p3.1 5 y0 p7).bind fun p9 =>
    F_M_depositItem_143 p9
  else
    F_M_depositItem_143 w
def F_M_depositItem_22 (t : Nat) (x1 : Int32) (y0 : Nat) (y1 : Int32) (w : A_W) : Option (A_W) :=
  (bz y1).bind fun b2 =>
  (pf w y0 4 14 (.int b2)).bind fun w1 =>
  (gi w1 t 4 14).bind fun v3 =>
  if v3 = 0 then
    (ob w1 t 4).bind fun o6 =>
    (F_M_reads t w1).bind fun p5 =>
    (ob p5 t 4).bind fun o8 =>
    (F_M_perhaps t 7 0 15 0 p5).bind fun p7 =>
    (ob p7.2 t 4).bind fun o10 =>
    (F_M_perhaps t 8 0 99 (-1) p7.2).bind fun p9 =>
    (ob p9.2 t 4).bind fun o12 =>
    (F_M_perhaps t 9 0 9999 0 p9.2).bind fun p11 =>
    (ob p11.2 t 4).bind fun o14 =>
    (F_M_perhaps t 10 0 99 0 p11.2).bind fun p13 =>
    (ob p13.2 t 4).bind fun o16 =>
    (F_M_takes t 11 p13.2).bind fun p15 =>
    if p15.1 = 0 then
      F_M_depositItem_98 t x1 p7.1 p9.1 p11.1 p13.1 0 p15.2
    else
      F_M_depositItem_98 t x1 p7.1 p9.1 p11.1 p13.1 1 p15.2
  else
    some w1
def F_M_depositItem_0 (t : Nat) (w : A_W) : Option (A_W) :=
  (gi w t 4 10).bind fun v1 =>
  (gr w t 4 0).bind fun a2 =>
  (rd w a2 3).bind fun v3 =>
  if v3 = 8 then
    F_M_depositItem_22 t v1 t 1 w
  else
    F_M_depositItem_22 t v1 t 0 w
set_option maxHeartbeats 4000000 in
set_option maxRecDepth 100000 in
theorem s_M_depositItem_143 {G : Gx} {X : Cx} {res : A_W} (K : Ok G X 4 c_M_depositItem 8 (none) rm_M_depositItem) (hQ : QQ G X none res 0 0) (w : A_W) (h : F_M_depositItem_143 w = some res) : Sm G X w 0 0 [none, none, none, none, none, none, none, none] [] 143 := by
  unfold F_M_depositItem_143 at h
  obtain rfl := Option.some.inj h
  exact Sm_retv K hQ (eok_i (eo ek_M_depositItem (i := 80) rfl) rfl)
set_option maxHeartbeats 4000000 in
set_option maxRecDepth 100000 in
theorem s_M_depositItem_98 {G : Gx} {X : Cx} {res : A_W} (K : Ok G X 4 c_M_depositItem 8 (none) rm_M_depositItem) (hQ : QQ G X none res 0 0) (t : Nat) (x1 : Int32) (x2 : Int32) (x3 : Int32) (x4 : Int32) (x5 : Int32) (y0 : Int32) (w : A_W) (h : F_M_depositItem_98 t x1 x2 x3 x4 x5 y0 w = some res) : Sm G X w 0 0 [some (.ref t), some (.int x1), some (.int x2), some (.int x3), some (.int x4), some (.int x5), none, none] [.int y0] 98 := by
  unfold F_M_depositItem_98 at h
  refine Sm_run K ek_M_depositItem 55 2 rfl ?_
  obtain ⟨v1, e_v1, h⟩ := Option.bind_eq_some_iff.mp h
  refine Sm_gi K (eo ek_M_depositItem (i := 57) rfl) e_v1 ?_
  refine Sm_if_ne K (eo ek_M_depositItem (i := 58) rfl) (fun c2 => ?_) (fun c2 => ?_)
  · rw [if_neg c2] at h
    exact Sm_le (leR_n (leR_n (leR_n (leR_n (leR_n (leR_n (leR_n (leR_n leR_nil)))))))) (s_M_depositItem_143 K hQ _ h)
  · rw [if_pos c2] at h
    refine Sm_run K ek_M_depositItem 59 4 rfl ?_
    obtain ⟨o4, e_o4, h⟩ := Option.bind_eq_some_iff.mp h
    obtain ⟨p3, e_p3, h⟩ := Option.bind_eq_some_iff.mp h
    refine Sm_callV K (eok_i (eo ek_M_depositItem (i := 63) rfl) rfl) cy_M_comes im_M_comes se_M_comes (lgm 839 (by decide +kernel) rfl) ⟨Nat.le_of_ble_eq_true rfl, Nat.le_of_ble_eq_true rfl⟩ (as := [.int x1, .int x2, .int x3]) (b := t) (st := []) (ob_e e_o4) (by decide) rfl rfl rfl rfl (Nat.le_of_ble_eq_true rfl) ⟨Nat.le_of_ble_eq_true rfl, Nat.le_of_ble_eq_true rfl⟩ (cn_M_comes e_p3) ?_
    refine Sm_eq (st1 := .int p3.1 :: []) (nc1 := 0) (ns1 := 0) rfl rfl rfl ?_
    refine Sm_run K ek_M_depositItem 64 5 rfl ?_
    obtain ⟨o6, e_o6, h⟩ := Option.bind_eq_some_iff.mp h
    obtain ⟨p5, e_p5, h⟩ := Option.bind_eq_some_iff.mp h
    refine Sm_callV K (eok_i (eo ek_M_depositItem (i := 69) rfl) rfl) cy_M_put im_M_put se_M_put (lgm 843 (by decide +kernel) rfl) ⟨Nat.le_of_ble_eq_true rfl, Nat.le_of_ble_eq_true rfl⟩ (as := [.int p3.1, .int 3, .int x4]) (b := t) (st := []) (ob_e e_o6) (by decide) rfl rfl rfl rfl (Nat.le_of_ble_eq_true rfl) ⟨Nat.le_of_ble_eq_true rfl, Nat.le_of_ble_eq_true rfl⟩ (cn_M_put e_p5) ?_
    refine Sm_eq (st1 := []) (nc1 := 0) (ns1 := 0) rfl rfl rfl ?_
    refine Sm_run K ek_M_depositItem 70 4 rfl ?_
    obtain ⟨o8, e_o8, h⟩ := Option.bind_eq_some_iff.mp h
    obtain ⟨p7, e_p7, h⟩ := Option.bind_eq_some_iff.mp h
    refine Sm_callV K (eok_i (eo ek_M_depositItem (i := 74) rfl) rfl) cy_M_put im_M_put se_M_put (lgm 843 (by decide +kernel) rfl) ⟨Nat.le_of_ble_eq_true rfl, Nat.le_of_ble_eq_true rfl⟩ (as := [.int p3.1, .int 4, .int x5]) (b := t) (st := []) (ob_e e_o8) (by decide) rfl rfl rfl rfl (Nat.le_of_ble_eq_true rfl) ⟨Nat.le_of_ble_eq_true rfl, Nat.le_of_ble_eq_true rfl⟩ (cn_M_put e_p7) ?_
    refine Sm_eq (st1 := []) (nc1 := 0) (ns1 := 0) rfl rfl rfl ?_
    refine Sm_run K ek_M_depositItem 75 4 rfl ?_
    obtain ⟨o10, e_o10, h⟩ := Option.bind_eq_some_iff.mp h
    obtain ⟨p9, e_p9, h⟩ := Option.bind_eq_some_iff.mp h
    refine Sm_callV K (eok_i (eo ek_M_depositItem (i := 79) rfl) rfl) cy_M_put im_M_put se_M_put (lgm 843 (by decide +kernel) rfl) ⟨Nat.le_of_ble_eq_true rfl, Nat.le_of_ble_eq_true rfl⟩ (as := [.int p3.1, .int 5, .int y0]) (b := t) (st := []) (ob_e e_o10) (by decide) rfl rfl rfl rfl (Nat.le_of_ble_eq_true rfl) ⟨Nat.le_of_ble_eq_true rfl, Nat.le_of_ble_eq_true rfl⟩ (cn_M_put e_p9) ?_
    refine Sm_eq (st1 := []) (nc1 := 0) (ns1 := 0) rfl rfl rfl ?_
    exact Sm_le (leR_n (leR_n (leR_n (leR_n (leR_n (leR_n (leR_n (leR_n leR_nil)))))))) (s_M_depositItem_143 K hQ _ h)
set_option maxHeartbeats 4000000 in
set_option maxRecDepth 100000 in
theorem s_M_depositItem_22 {G : Gx} {X : Cx} {res : A_W} (K : Ok G X 4 c_M_depositItem 8 (none) rm_M_depositItem) (hQ : QQ G X none res 0 0) (t : Nat) (x1 : Int32) (y0 : Nat) (y1 : Int32) (w : A_W) (h : F_M_depositItem_22 t x1 y0 y1 w = some res) : Sm G X w 0 0 [some (.ref t), some (.int x1), none, none, none, none, none, none] [.int y1, .ref y0] 22 := by
  unfold F_M_depositItem_22 at h
  obtain ⟨b2, e_b2, h⟩ := Option.bind_eq_some_iff.mp h
  obtain ⟨w1, e_w1, h⟩ := Option.bind_eq_some_iff.mp h
  refine Sm_pz K (eo ek_M_depositItem (i := 13) rfl) rfl rfl e_b2 e_w1 ?_
  refine Sm_run K ek_M_depositItem 14 1 rfl ?_
  obtain ⟨v3, e_v3, h⟩ := Option.bind_eq_some_iff.mp h
  refine Sm_gi K (eo ek_M_depositItem (i := 15) rfl) e_v3 ?_
  refine Sm_if_eq K (eo ek_M_depositItem (i := 16) rfl) (fun c4 => ?_) (fun c4 => ?_)
  · rw [if_pos c4] at h
    refine Sm_run K ek_M_depositItem 18 1 rfl ?_
    obtain ⟨o6, e_o6, h⟩ := Option.bind_eq_some_iff.mp h
    obtain ⟨p5, e_p5, h⟩ := Option.bind_eq_some_iff.mp h
    refine Sm_callV K (eok_i (eo ek_M_depositItem (i := 19) rfl) rfl) cy_M_reads im_M_reads se_M_reads (lgm 1109 (by decide +kernel) rfl) ⟨Nat.le_of_ble_eq_true rfl, Nat.le_of_ble_eq_true rfl⟩ (as := []) (b := t) (st := []) (ob_e e_o6) (by decide) rfl rfl rfl rfl (Nat.le_of_ble_eq_true rfl) ⟨Nat.le_of_ble_eq_true rfl, Nat.le_of_ble_eq_true rfl⟩ (cn_M_reads e_p5) ?_
    refine Sm_eq (st1 := []) (nc1 := 0) (ns1 := 0) rfl rfl rfl ?_
    refine Sm_run K ek_M_depositItem 20 5 rfl ?_
    obtain ⟨o8, e_o8, h⟩ := Option.bind_eq_some_iff.mp h
    obtain ⟨p7, e_p7, h⟩ := Option.bind_eq_some_iff.mp h
    refine Sm_callV K (eok_i (eo ek_M_depositItem (i := 25) rfl) rfl) cy_M_perhaps im_M_perhaps se_M_perhaps (lgm 1135 (by decide +kernel) rfl) ⟨Nat.le_of_ble_eq_true rfl, Nat.le_of_ble_eq_true rfl⟩ (as := [.int 7, .int 0, .int 15, .int 0]) (b := t) (st := []) (ob_e e_o8) (by decide) rfl rfl rfl rfl (Nat.le_of_ble_eq_true rfl) ⟨Nat.le_of_ble_eq_true rfl, Nat.le_of_ble_eq_true rfl⟩ (cn_M_perhaps e_p7) ?_
    refine Sm_eq (st1 := .int p7.1 :: []) (nc1 := 0) (ns1 := 0) rfl rfl rfl ?_
    refine Sm_run K ek_M_depositItem 26 6 rfl ?_
    obtain ⟨o10, e_o10, h⟩ := Option.bind_eq_some_iff.mp h
    obtain ⟨p9, e_p9, h⟩ := Option.bind_eq_some_iff.mp h
    refine Sm_callV K (eok_i (eo ek_M_depositItem (i := 32) rfl) rfl) cy_M_perhaps im_M_perhaps se_M_perhaps (lgm 1135 (by decide +kernel) rfl) ⟨Nat.le_of_ble_eq_true rfl, Nat.le_of_ble_eq_true rfl⟩ (as := [.int 8, .int 0, .int 99, .int (-1)]) (b := t) (st := []) (ob_e e_o10) (by decide) rfl rfl rfl rfl (Nat.le_of_ble_eq_true rfl) ⟨Nat.le_of_ble_eq_true rfl, Nat.le_of_ble_eq_true rfl⟩ (cn_M_perhaps e_p9) ?_
    refine Sm_eq (st1 := .int p9.1 :: []) (nc1 := 0) (ns1 := 0) rfl rfl rfl ?_
    refine Sm_run K ek_M_depositItem 33 6 rfl ?_
    obtain ⟨o12, e_o12, h⟩ := Option.bind_eq_some_iff.mp h
    obtain ⟨p11, e_p11, h⟩ := Option.bind_eq_some_iff.mp h
    refine Sm_callV K (eok_i (eo ek_M_depositItem (i := 39) rfl) rfl) cy_M_perhaps im_M_perhaps se_M_perhaps (lgm 1135 (by decide +kernel) rfl) ⟨Nat.le_of_ble_eq_true rfl, Nat.le_of_ble_eq_true rfl⟩ (as := [.int 9, .int 0, .int 9999, .int 0]) (b := t) (st := []) (ob_e e_o12) (by decide) rfl rfl rfl rfl (Nat.le_of_ble_eq_true rfl) ⟨Nat.le_of_ble_eq_true rfl, Nat.le_of_ble_eq_true rfl⟩ (cn_M_perhaps e_p11) ?_
    refine Sm_eq (st1 := .int p11.1 :: []) (nc1 := 0) (ns1 := 0) rfl rfl rfl ?_
    refine Sm_run K ek_M_depositItem 40 6 rfl ?_
    obtain ⟨o14, e_o14, h⟩ := Option.bind_eq_some_iff.mp h
    obtain ⟨p13, e_p13, h⟩ := Option.bind_eq_some_iff.mp h
    refine Sm_callV K (eok_i (eo ek_M_depositItem (i := 46) rfl) rfl) cy_M_perhaps im_M_perhaps se_M_perhaps (lgm 1135 (by decide +kernel) rfl) ⟨Nat.le_of_ble_eq_true rfl, Nat.le_of_ble_eq_true rfl⟩ (as := [.int 10, .int 0, .int 99, .int 0]) (b := t) (st := []) (ob_e e_o14) (by decide) rfl rfl rfl rfl (Nat.le_of_ble_eq_true rfl) ⟨Nat.le_of_ble_eq_true rfl, Nat.le_of_ble_eq_true rfl⟩ (cn_M_perhaps e_p13) ?_
    refine Sm_eq (st1 := .int p13.1 :: []) (nc1 := 0) (ns1 := 0) rfl rfl rfl ?_
    refine Sm_run K ek_M_depositItem 47 3 rfl ?_
    obtain ⟨o16, e_o16, h⟩ := Option.bind_eq_some_iff.mp h
    obtain ⟨p15, e_p15, h⟩ := Option.bind_eq_some_iff.mp h
    refine Sm_callV K (eok_i (eo ek_M_depositItem (i := 50) rfl) rfl) cy_M_takes im_M_takes se_M_takes (lgm 1139 (by decide +kernel) rfl) ⟨Nat.le_of_ble_eq_true rfl, Nat.le_of_ble_eq_true rfl⟩ (as := [.int 11]) (b := t) (st := []) (ob_e e_o16) (by decide) rfl rfl rfl rfl (Nat.le_of_ble_eq_true rfl) ⟨Nat.le_of_ble_eq_true rfl, Nat.le_of_ble_eq_true rfl⟩ (cn_M_takes e_p15) ?_
    refine Sm_eq (st1 := .int p15.1 :: []) (nc1 := 0) (ns1 := 0) rfl rfl rfl ?_
    refine Sm_if_eq K (eo ek_M_depositItem (i := 51) rfl) (fun c17 => ?_) (fun c17 => ?_)
    · rw [if_pos c17] at h
      refine Sm_run K ek_M_depositItem 54 1 rfl ?_
      exact Sm_le (leR_s (leR_s (leR_s (leR_s (leR_s (leR_s (leR_n (leR_n leR_nil)))))))) (s_M_depositItem_98 K hQ _ _ _ _ _ _ _ _ h)
    · rw [if_neg c17] at h
      refine Sm_run K ek_M_depositItem 52 2 rfl ?_
      exact Sm_le (leR_s (leR_s (leR_s (leR_s (leR_s (leR_s (leR_n (leR_n leR_nil)))))))) (s_M_depositItem_98 K hQ _ _ _ _ _ _ _ _ h)
  · rw [if_neg c4] at h
    obtain rfl := Option.some.inj h
    exact Sm_retv K hQ (eok_i (eo ek_M_depositItem (i := 17) rfl) rfl)
set_option maxHeartbeats 4000000 in
set_option maxRecDepth 100000 in
theorem s_M_depositItem_0 {G : Gx} {X : Cx} {res : A_W} (K : Ok G X 4 c_M_depositItem 8 (none) rm_M_depositItem) (hQ : QQ G X none res 0 0) (t : Nat) (w : A_W) (h : F_M_depositItem_0 t w = some res) : Sm G X w 0 0 [some (.ref t), none, none, none, none, none, none, none] [] 0 := by
  unfold F_M_depositItem_0 at h
  refine Sm_run K ek_M_depositItem 0 1 rfl ?_
  obtain ⟨v1, e_v1, h⟩ := Option.bind_eq_some_iff.mp h
  refine Sm_gi K (eo ek_M_depositItem (i := 1) rfl) e_v1 ?_
  refine Sm_run K ek_M_depositItem 2 3 rfl ?_
  obtain ⟨a2, e_a2, h⟩ := Option.bind_eq_some_iff.mp h
  refine Sm_gr K (eo ek_M_depositItem (i := 5) rfl) e_a2 ?_
  refine Sm_run K ek_M_depositItem 6 1 rfl ?_
  obtain ⟨v3, e_v3, h⟩ := Option.bind_eq_some_iff.mp h
  refine Sm_rd K (eok_i (eo ek_M_depositItem (i := 7) rfl) rfl) e_v3 ?_
  refine Sm_run K ek_M_depositItem 8 1 rfl ?_
  refine Sm_ic_ne K (eo ek_M_depositItem (i := 9) rfl) (fun c4 => ?_) (fun c4 => ?_)
  · rw [if_neg c4] at h
    refine Sm_run K ek_M_depositItem 12 1 rfl ?_
    exact Sm_le (leR_s (leR_s (leR_n (leR_n (leR_n (leR_n (leR_n (leR_n leR_nil)))))))) (s_M_depositItem_22 K hQ _ _ _ _ _ h)
  · rw [if_pos c4] at h
    refine Sm_run K ek_M_depositItem 10 2 rfl ?_
    exact Sm_le (leR_s (leR_s (leR_n (leR_n (leR_n (leR_n (leR_n (leR_n leR_nil)))))))) (s_M_depositItem_22 K hQ _ _ _ _ _ h)
def F_M_depositItem (t : Nat) (w : A_W) : Option (A_W) := F_M_depositItem_0 t w
theorem cn_M_depositItem {G : Gx} {t : Nat} {w : A_W} {res : A_W} (h : F_M_depositItem t w = some res) : Cn G y_M_depositItem c_M_depositItem 8 (none) rm_M_depositItem [.ref t] w none res :=
  Cn_of (own := 4) cy_M_depositItem rfl rfl (Nat.le_of_ble_eq_true rfl) rfl (fun X K _ hQ => Sm_le (leR_s (leR_n (leR_n (leR_n (leR_n (leR_n (leR_n (leR_n leR_nil)))))))) (s_M_depositItem_0 K hQ _ _ h))
/-! EveningCloakModel.girlItem()V -/
abbrev c_M_girlItem : ByteArray := prog_6_method_84_code
def y_M_girlItem : MethodName := ⟨"EveningCloakModel", "girlItem", "()V"⟩
def rm_M_girlItem : Room := { frames := 5, cells := 0, slots := 0, locals := 112 }
theorem cy_M_girlItem : Cy y_M_girlItem c_M_girlItem 3 (none) 0 := ⟨lgm 1150 (by decide +kernel) rfl, lgm 73 (by decide +kernel) rfl, by decide +kernel, by decide +kernel⟩
theorem im_M_girlItem : Cond.instanceMethod y_M_girlItem ∈ lg := lgm 1149 (by decide +kernel) rfl
theorem se_M_girlItem : Cond.selects y_M_girlItem.cls y_M_girlItem y_M_girlItem ∈ lg := lgm 63 (by decide +kernel) rfl
def e_M_girlItem : List Ent := [
  (0, .aload_n 0, 1, 1, .null, 0, 0, 0),
  (1, .aload_n 0, 1, 2, .null, 0, 0, 0),
  (2, .getfield 9, 3, 5, .null, 4, 0, 762),
  (5, .iconst 4, 1, 6, .int 4, 0, 0, 0),
  (6, .iaload, 1, 7, .null, 0, 0, 0),
  (7, .bipush 6, 2, 9, .int 6, 0, 0, 0),
  (9, .if_icmp .ne 7, 3, 16, .null, 0, 0, 0),
  (12, .iconst 1, 1, 13, .int 1, 0, 0, 0),
  (13, .goto 4, 3, 17, .null, 0, 0, 0),
  (16, .iconst 0, 1, 17, .int 0, 0, 0, 0),
  (17, .putfield 217, 3, 20, .null, 4, 14, 776),
  (20, .aload_n 0, 1, 21, .null, 0, 0, 0),
  (21, .getfield 217, 3, 24, .null, 4, 14, 776),
  (24, .ifCond .eq 4, 3, 28, .null, 0, 0, 0),
  (27, .return_, 1, 28, .null, 0, 0, 0),
  (28, .aload_n 0, 1, 29, .null, 0, 0, 0),
  (29, .invokevirtual 221, 3, 32, .null, 0, 0, 0),
  (32, .aload_n 0, 1, 33, .null, 0, 0, 0),
  (33, .bipush 13, 2, 35, .int 13, 0, 0, 0),
  (35, .iconst 1, 1, 36, .int 1, 0, 0, 0),
  (36, .bipush 99, 2, 38, .int 99, 0, 0, 0),
  (38, .bipush 50, 2, 40, .int 50, 0, 0, 0),
  (40, .invokevirtual 230, 3, 43, .null, 0, 0, 0),
  (43, .istore_n 1, 1, 44, .null, 0, 0, 0),
  (44, .aload_n 0, 1, 45, .null, 0, 0, 0),
  (45, .getfield 217, 3, 48, .null, 4, 14, 776),
  (48, .ifCond .ne 9, 3, 57, .null, 0, 0, 0),
  (51, .aload_n 0, 1, 52, .null, 0, 0, 0),
  (52, .iload_n 1, 1, 53, .null, 0, 0, 0),
  (53, .invokevirtual 85, 3, 56, .null, 0, 0, 0),
  (56, .istore_n 2, 1, 57, .null, 0, 0, 0),
  (57, .return_, 1, 58, .null, 0, 0, 0)]
set_option maxRecDepth 100000 in
theorem ek_M_girlItem : e_M_girlItem.all (eok 4 c_M_girlItem) = true := by decide +kernel
def F_M_girlItem_57 (w : A_W) : Option (A_W) :=
  some w
def F_M_girlItem_17 (t : Nat) (y0 : Nat) (y1 : Int32) (w : A_W) : Option (A_W) :=
  (bz y1).bind fun b2 =>
  (pf w y0 4 14 (.int b2)).bind fun w1 =>
  (gi w1 t 4 14).bind fun v3 =>
  if v3 = 0 then
    (ob w1 t 4).bind fun o6 =>
    (F_M_reads t w1).bind fun p5 =>
    (ob p5 t 4).bind fun o8 =>
    (F_M_perhaps t 13 1 99 50 p5).bind fun p7 =>
    (gi p7.2 t 4 14).bind fun v9 =>
    if v9 = 0 then
      (ob p7.2 t 4).bind fun o12 =>
      (F_M_enters t p7.1 p7.2).bind fun p11 =>
      F_M_girlItem_57 p11.2
    else
      F_M_girlItem_57 p7.2
  else
    some w1
def F_M_girlItem_0 (t : Nat) (w : A_W) : Option (A_W) :=
  (gr w t 4 0).bind fun a1 =>
  (rd w a1 4).bind fun v2 =>
  if v2 = 6 then
    F_M_girlItem_17 t t 1 w
  else
    F_M_girlItem_17 t t 0 w
set_option maxHeartbeats 4000000 in
set_option maxRecDepth 100000 in
theorem s_M_girlItem_57 {G : Gx} {X : Cx} {res : A_W} (K : Ok G X 4 c_M_girlItem 3 (none) rm_M_girlItem) (hQ : QQ G X none res 0 0) (w : A_W) (h : F_M_girlItem_57 w = some res) : Sm G X w 0 0 [none, none, none] [] 57 := by
  unfold F_M_girlItem_57 at h
  obtain rfl := Option.some.inj h
  exact Sm_retv K hQ (eok_i (eo ek_M_girlItem (i := 31) rfl) rfl)
set_option maxHeartbeats 4000000 in
set_option maxRecDepth 100000 in
theorem s_M_girlItem_17 {G : Gx} {X : Cx} {res : A_W} (K : Ok G X 4 c_M_girlItem 3 (none) rm_M_girlItem) (hQ : QQ G X none res 0 0) (t : Nat) (y0 : Nat) (y1 : Int32) (w : A_W) (h : F_M_girlItem_17 t y0 y1 w = some res) : Sm G X w 0 0 [some (.ref t), none, none] [.int y1, .ref y0] 17 := by
  unfold F_M_girlItem_17 at h
  obtain ⟨b2, e_b2, h⟩ := Option.bind_eq_some_iff.mp h
  obtain ⟨w1, e_w1, h⟩ := Option.bind_eq_some_iff.mp h
  refine Sm_pz K (eo ek_M_girlItem (i := 10) rfl) rfl rfl e_b2 e_w1 ?_
  refine Sm_run K ek_M_girlItem 11 1 rfl ?_
  obtain ⟨v3, e_v3, h⟩ := Option.bind_eq_some_iff.mp h
  refine Sm_gi K (eo ek_M_girlItem (i := 12) rfl) e_v3 ?_
  refine Sm_if_eq K (eo ek_M_girlItem (i := 13) rfl) (fun c4 => ?_) (fun c4 => ?_)
  · rw [if_pos c4] at h
    refine Sm_run K ek_M_girlItem 15 1 rfl ?_
    obtain ⟨o6, e_o6, h⟩ := Option.bind_eq_some_iff.mp h
    obtain ⟨p5, e_p5, h⟩ := Option.bind_eq_some_iff.mp h
    refine Sm_callV K (eok_i (eo ek_M_girlItem (i := 16) rfl) rfl) cy_M_reads im_M_reads se_M_reads (lgm 1109 (by decide +kernel) rfl) ⟨Nat.le_of_ble_eq_true rfl, Nat.le_of_ble_eq_true rfl⟩ (as := []) (b := t) (st := []) (ob_e e_o6) (by decide) rfl rfl rfl rfl (Nat.le_of_ble_eq_true rfl) ⟨Nat.le_of_ble_eq_true rfl, Nat.le_of_ble_eq_true rfl⟩ (cn_M_reads e_p5) ?_
    refine Sm_eq (st1 := []) (nc1 := 0) (ns1 := 0) rfl rfl rfl ?_
    refine Sm_run K ek_M_girlItem 17 5 rfl ?_
    obtain ⟨o8, e_o8, h⟩ := Option.bind_eq_some_iff.mp h
    obtain ⟨p7, e_p7, h⟩ := Option.bind_eq_some_iff.mp h
    refine Sm_callV K (eok_i (eo ek_M_girlItem (i := 22) rfl) rfl) cy_M_perhaps im_M_perhaps se_M_perhaps (lgm 1135 (by decide +kernel) rfl) ⟨Nat.le_of_ble_eq_true rfl, Nat.le_of_ble_eq_true rfl⟩ (as := [.int 13, .int 1, .int 99, .int 50]) (b := t) (st := []) (ob_e e_o8) (by decide) rfl rfl rfl rfl (Nat.le_of_ble_eq_true rfl) ⟨Nat.le_of_ble_eq_true rfl, Nat.le_of_ble_eq_true rfl⟩ (cn_M_perhaps e_p7) ?_
    refine Sm_eq (st1 := .int p7.1 :: []) (nc1 := 0) (ns1 := 0) rfl rfl rfl ?_
    refine Sm_run K ek_M_girlItem 23 2 rfl ?_
    obtain ⟨v9, e_v9, h⟩ := Option.bind_eq_some_iff.mp h
    refine Sm_gi K (eo ek_M_girlItem (i := 25) rfl) e_v9 ?_
    refine Sm_if_ne K (eo ek_M_girlItem (i := 26) rfl) (fun c10 => ?_) (fun c10 => ?_)
    · rw [if_neg c10] at h
      exact Sm_le (leR_n (leR_n (leR_n leR_nil))) (s_M_girlItem_57 K hQ _ h)
    · rw [if_pos c10] at h
      refine Sm_run K ek_M_girlItem 27 2 rfl ?_
      obtain ⟨o12, e_o12, h⟩ := Option.bind_eq_some_iff.mp h
      obtain ⟨p11, e_p11, h⟩ := Option.bind_eq_some_iff.mp h
      refine Sm_callV K (eok_i (eo ek_M_girlItem (i := 29) rfl) rfl) cy_M_enters im_M_enters se_M_enters (lgm 851 (by decide +kernel) rfl) ⟨Nat.le_of_ble_eq_true rfl, Nat.le_of_ble_eq_true rfl⟩ (as := [.int p7.1]) (b := t) (st := []) (ob_e e_o12) (by decide) rfl rfl rfl rfl (Nat.le_of_ble_eq_true rfl) ⟨Nat.le_of_ble_eq_true rfl, Nat.le_of_ble_eq_true rfl⟩ (cn_M_enters e_p11) ?_
      refine Sm_eq (st1 := .int p11.1 :: []) (nc1 := 0) (ns1 := 0) rfl rfl rfl ?_
      refine Sm_run K ek_M_girlItem 30 1 rfl ?_
      exact Sm_le (leR_n (leR_n (leR_n leR_nil))) (s_M_girlItem_57 K hQ _ h)
  · rw [if_neg c4] at h
    obtain rfl := Option.some.inj h
    exact Sm_retv K hQ (eok_i (eo ek_M_girlItem (i := 14) rfl) rfl)
set_option maxHeartbeats 4000000 in
set_option maxRecDepth 100000 in
theorem s_M_girlItem_0 {G : Gx} {X : Cx} {res : A_W} (K : Ok G X 4 c_M_girlItem 3 (none) rm_M_girlItem) (hQ : QQ G X none res 0 0) (t : Nat) (w : A_W) (h : F_M_girlItem_0 t w = some res) : Sm G X w 0 0 [some (.ref t), none, none] [] 0 := by
  unfold F_M_girlItem_0 at h
  refine Sm_run K ek_M_girlItem 0 2 rfl ?_
  obtain ⟨a1, e_a1, h⟩ := Option.bind_eq_some_iff.mp h
  refine Sm_gr K (eo ek_M_girlItem (i := 2) rfl) e_a1 ?_
  refine Sm_run K ek_M_girlItem 3 1 rfl ?_
  obtain ⟨v2, e_v2, h⟩ := Option.bind_eq_some_iff.mp h
  refine Sm_rd K (eok_i (eo ek_M_girlItem (i := 4) rfl) rfl) e_v2 ?_
  refine Sm_run K ek_M_girlItem 5 1 rfl ?_
  refine Sm_ic_ne K (eo ek_M_girlItem (i := 6) rfl) (fun c3 => ?_) (fun c3 => ?_)
  · rw [if_neg c3] at h
    refine Sm_run K ek_M_girlItem 9 1 rfl ?_
    exact Sm_le (leR_s (leR_n (leR_n leR_nil))) (s_M_girlItem_17 K hQ _ _ _ _ h)
  · rw [if_pos c3] at h
    refine Sm_run K ek_M_girlItem 7 2 rfl ?_
    exact Sm_le (leR_s (leR_n (leR_n leR_nil))) (s_M_girlItem_17 K hQ _ _ _ _ h)
def F_M_girlItem (t : Nat) (w : A_W) : Option (A_W) := F_M_girlItem_0 t w
theorem cn_M_girlItem {G : Gx} {t : Nat} {w : A_W} {res : A_W} (h : F_M_girlItem t w = some res) : Cn G y_M_girlItem c_M_girlItem 3 (none) rm_M_girlItem [.ref t] w none res :=
  Cn_of (own := 4) cy_M_girlItem rfl rfl (Nat.le_of_ble_eq_true rfl) rfl (fun X K _ hQ => Sm_le (leR_s (leR_n (leR_n leR_nil))) (s_M_girlItem_0 K hQ _ _ h))
/-! EveningCloakModel.standItem()V -/
abbrev c_M_standItem : ByteArray := prog_6_method_85_code
def y_M_standItem : MethodName := ⟨"EveningCloakModel", "standItem", "()V"⟩
def rm_M_standItem : Room := { frames := 4, cells := 0, slots := 0, locals := 88 }
theorem cy_M_standItem : Cy y_M_standItem c_M_standItem 4 (none) 0 := ⟨lgm 1154 (by decide +kernel) rfl, lgm 73 (by decide +kernel) rfl, by decide +kernel, by decide +kernel⟩
theorem im_M_standItem : Cond.instanceMethod y_M_standItem ∈ lg := lgm 1153 (by decide +kernel) rfl
theorem se_M_standItem : Cond.selects y_M_standItem.cls y_M_standItem y_M_standItem ∈ lg := lgm 64 (by decide +kernel) rfl
def e_M_standItem : List Ent := [
  (0, .aload_n 0, 1, 1, .null, 0, 0, 0),
  (1, .iconst 0, 1, 2, .int 0, 0, 0, 0),
  (2, .iconst 5, 1, 3, .int 5, 0, 0, 0),
  (3, .invokevirtual 227, 3, 6, .null, 0, 0, 0),
  (6, .istore_n 1, 1, 7, .null, 0, 0, 0),
  (7, .aload_n 0, 1, 8, .null, 0, 0, 0),
  (8, .iconst 0, 1, 9, .int 0, 0, 0, 0),
  (9, .iconst 5, 1, 10, .int 5, 0, 0, 0),
  (10, .invokevirtual 227, 3, 13, .null, 0, 0, 0),
  (13, .istore_n 2, 1, 14, .null, 0, 0, 0),
  (14, .aload_n 0, 1, 15, .null, 0, 0, 0),
  (15, .iconst 0, 1, 16, .int 0, 0, 0, 0),
  (16, .bipush 15, 2, 18, .int 15, 0, 0, 0),
  (18, .invokevirtual 227, 3, 21, .null, 0, 0, 0),
  (21, .istore_n 3, 1, 22, .null, 0, 0, 0),
  (22, .aload_n 0, 1, 23, .null, 0, 0, 0),
  (23, .getfield 217, 3, 26, .null, 4, 14, 776),
  (26, .ifCond .ne 17, 3, 43, .null, 0, 0, 0),
  (29, .aload_n 0, 1, 30, .null, 0, 0, 0),
  (30, .getfield 9, 3, 33, .null, 4, 0, 762),
  (33, .iconst 5, 1, 34, .int 5, 0, 0, 0),
  (34, .iload_n 1, 1, 35, .null, 0, 0, 0),
  (35, .iadd, 1, 36, .null, 0, 0, 0),
  (36, .bipush 100, 2, 38, .int 100, 0, 0, 0),
  (38, .iload_n 2, 1, 39, .null, 0, 0, 0),
  (39, .imul, 1, 40, .null, 0, 0, 0),
  (40, .iload_n 3, 1, 41, .null, 0, 0, 0),
  (41, .iadd, 1, 42, .null, 0, 0, 0),
  (42, .iastore, 1, 43, .null, 0, 0, 0),
  (43, .return_, 1, 44, .null, 0, 0, 0)]
set_option maxRecDepth 100000 in
theorem ek_M_standItem : e_M_standItem.all (eok 4 c_M_standItem) = true := by decide +kernel
def F_M_standItem_43 (w : A_W) : Option (A_W) :=
  some w
def F_M_standItem_0 (t : Nat) (w : A_W) : Option (A_W) :=
  (ob w t 4).bind fun o2 =>
  (F_M_number t 0 5 w).bind fun p1 =>
  (ob p1.2 t 4).bind fun o4 =>
  (F_M_number t 0 5 p1.2).bind fun p3 =>
  (ob p3.2 t 4).bind fun o6 =>
  (F_M_number t 0 15 p3.2).bind fun p5 =>
  (gi p5.2 t 4 14).bind fun v7 =>
  if v7 = 0 then
    (gr p5.2 t 4 0).bind fun a9 =>
    (wr p5.2 a9 (5 + p1.1) ((100 * p3.1) + p5.1)).bind fun w10 =>
    F_M_standItem_43 w10
  else
    F_M_standItem_43 p5.2
set_option maxHeartbeats 4000000 in
set_option maxRecDepth 100000 in
theorem s_M_standItem_43 {G : Gx} {X : Cx} {res : A_W} (K : Ok G X 4 c_M_standItem 4 (none) rm_M_standItem) (hQ : QQ G X none res 0 0) (w : A_W) (h : F_M_standItem_43 w = some res) : Sm G X w 0 0 [none, none, none, none] [] 43 := by
  unfold F_M_standItem_43 at h
  obtain rfl := Option.some.inj h
  exact Sm_retv K hQ (eok_i (eo ek_M_standItem (i := 29) rfl) rfl)
set_option maxHeartbeats 4000000 in
set_option maxRecDepth 100000 in
theorem s_M_standItem_0 {G : Gx} {X : Cx} {res : A_W} (K : Ok G X 4 c_M_standItem 4 (none) rm_M_standItem) (hQ : QQ G X none res 0 0) (t : Nat) (w : A_W) (h : F_M_standItem_0 t w = some res) : Sm G X w 0 0 [some (.ref t), none, none, none] [] 0 := by
  unfold F_M_standItem_0 at h
  refine Sm_run K ek_M_standItem 0 3 rfl ?_
  obtain ⟨o2, e_o2, h⟩ := Option.bind_eq_some_iff.mp h
  obtain ⟨p1, e_p1, h⟩ := Option.bind_eq_some_iff.mp h
  refine Sm_callV K (eok_i (eo ek_M_standItem (i := 3) rfl) rfl) cy_M_number im_M_number se_M_number (lgm 1143 (by decide +kernel) rfl) ⟨Nat.le_of_ble_eq_true rfl, Nat.le_of_ble_eq_true rfl⟩ (as := [.int 0, .int 5]) (b := t) (st := []) (ob_e e_o2) (by decide) rfl rfl rfl rfl (Nat.le_of_ble_eq_true rfl) ⟨Nat.le_of_ble_eq_true rfl, Nat.le_of_ble_eq_true rfl⟩ (cn_M_number e_p1) ?_
  refine Sm_eq (st1 := .int p1.1 :: []) (nc1 := 0) (ns1 := 0) rfl rfl rfl ?_
  refine Sm_run K ek_M_standItem 4 4 rfl ?_
  obtain ⟨o4, e_o4, h⟩ := Option.bind_eq_some_iff.mp h
  obtain ⟨p3, e_p3, h⟩ := Option.bind_eq_some_iff.mp h
  refine Sm_callV K (eok_i (eo ek_M_standItem (i := 8) rfl) rfl) cy_M_number im_M_number se_M_number (lgm 1143 (by decide +kernel) rfl) ⟨Nat.le_of_ble_eq_true rfl, Nat.le_of_ble_eq_true rfl⟩ (as := [.int 0, .int 5]) (b := t) (st := []) (ob_e e_o4) (by decide) rfl rfl rfl rfl (Nat.le_of_ble_eq_true rfl) ⟨Nat.le_of_ble_eq_true rfl, Nat.le_of_ble_eq_true rfl⟩ (cn_M_number e_p3) ?_
  refine Sm_eq (st1 := .int p3.1 :: []) (nc1 := 0) (ns1 := 0) rfl rfl rfl ?_
  refine Sm_run K ek_M_standItem 9 4 rfl ?_
  obtain ⟨o6, e_o6, h⟩ := Option.bind_eq_some_iff.mp h
  obtain ⟨p5, e_p5, h⟩ := Option.bind_eq_some_iff.mp h
  refine Sm_callV K (eok_i (eo ek_M_standItem (i := 13) rfl) rfl) cy_M_number im_M_number se_M_number (lgm 1143 (by decide +kernel) rfl) ⟨Nat.le_of_ble_eq_true rfl, Nat.le_of_ble_eq_true rfl⟩ (as := [.int 0, .int 15]) (b := t) (st := []) (ob_e e_o6) (by decide) rfl rfl rfl rfl (Nat.le_of_ble_eq_true rfl) ⟨Nat.le_of_ble_eq_true rfl, Nat.le_of_ble_eq_true rfl⟩ (cn_M_number e_p5) ?_
  refine Sm_eq (st1 := .int p5.1 :: []) (nc1 := 0) (ns1 := 0) rfl rfl rfl ?_
  refine Sm_run K ek_M_standItem 14 2 rfl ?_
  obtain ⟨v7, e_v7, h⟩ := Option.bind_eq_some_iff.mp h
  refine Sm_gi K (eo ek_M_standItem (i := 16) rfl) e_v7 ?_
  refine Sm_if_ne K (eo ek_M_standItem (i := 17) rfl) (fun c8 => ?_) (fun c8 => ?_)
  · rw [if_neg c8] at h
    exact Sm_le (leR_n (leR_n (leR_n (leR_n leR_nil)))) (s_M_standItem_43 K hQ _ h)
  · rw [if_pos c8] at h
    refine Sm_run K ek_M_standItem 18 1 rfl ?_
    obtain ⟨a9, e_a9, h⟩ := Option.bind_eq_some_iff.mp h
    refine Sm_gr K (eo ek_M_standItem (i := 19) rfl) e_a9 ?_
    refine Sm_run K ek_M_standItem 20 8 rfl ?_
    obtain ⟨w10, e_w10, h⟩ := Option.bind_eq_some_iff.mp h
    refine Sm_wr K (eok_i (eo ek_M_standItem (i := 28) rfl) rfl) e_w10 ?_
    exact Sm_le (leR_n (leR_n (leR_n (leR_n leR_nil)))) (s_M_standItem_43 K hQ _ h)
def F_M_standItem (t : Nat) (w : A_W) : Option (A_W) := F_M_standItem_0 t w
theorem cn_M_standItem {G : Gx} {t : Nat} {w : A_W} {res : A_W} (h : F_M_standItem t w = some res) : Cn G y_M_standItem c_M_standItem 4 (none) rm_M_standItem [.ref t] w none res :=
  Cn_of (own := 4) cy_M_standItem rfl rfl (Nat.le_of_ble_eq_true rfl) rfl (fun X K _ hQ => Sm_le (leR_s (leR_n (leR_n (leR_n leR_nil)))) (s_M_standItem_0 K hQ _ _ h))
/-! EveningCloakModel.item()V -/
abbrev c_M_item : ByteArray := prog_6_method_86_code
def y_M_item : MethodName := ⟨"EveningCloakModel", "item", "()V"⟩
def rm_M_item : Room := { frames := 6, cells := 0, slots := 0, locals := 139 }
theorem cy_M_item : Cy y_M_item c_M_item 1 (none) 0 := ⟨lgm 1130 (by decide +kernel) rfl, lgm 73 (by decide +kernel) rfl, by decide +kernel, by decide +kernel⟩
theorem im_M_item : Cond.instanceMethod y_M_item ∈ lg := lgm 1129 (by decide +kernel) rfl
theorem se_M_item : Cond.selects y_M_item.cls y_M_item y_M_item ∈ lg := lgm 58 (by decide +kernel) rfl
def e_M_item : List Ent := [
  (0, .aload_n 0, 1, 1, .null, 0, 0, 0),
  (1, .getfield 211, 3, 4, .null, 4, 10, 772),
  (4, .bipush 6, 2, 6, .int 6, 0, 0, 0),
  (6, .if_icmp .gt 10, 3, 16, .null, 0, 0, 0),
  (9, .aload_n 0, 1, 10, .null, 0, 0, 0),
  (10, .invokevirtual 233, 3, 13, .null, 0, 0, 0),
  (13, .goto 40, 3, 53, .null, 0, 0, 0),
  (16, .aload_n 0, 1, 17, .null, 0, 0, 0),
  (17, .getfield 211, 3, 20, .null, 4, 10, 772),
  (20, .bipush 12, 2, 22, .int 12, 0, 0, 0),
  (22, .if_icmp .ne 10, 3, 32, .null, 0, 0, 0),
  (25, .aload_n 0, 1, 26, .null, 0, 0, 0),
  (26, .invokevirtual 236, 3, 29, .null, 0, 0, 0),
  (29, .goto 24, 3, 53, .null, 0, 0, 0),
  (32, .aload_n 0, 1, 33, .null, 0, 0, 0),
  (33, .bipush 14, 2, 35, .int 14, 0, 0, 0),
  (35, .invokevirtual 224, 3, 38, .null, 0, 0, 0),
  (38, .ifCond .eq 10, 3, 48, .null, 0, 0, 0),
  (41, .aload_n 0, 1, 42, .null, 0, 0, 0),
  (42, .invokevirtual 239, 3, 45, .null, 0, 0, 0),
  (45, .goto 8, 3, 53, .null, 0, 0, 0),
  (48, .aload_n 0, 1, 49, .null, 0, 0, 0),
  (49, .iconst 1, 1, 50, .int 1, 0, 0, 0),
  (50, .putfield 217, 3, 53, .null, 4, 14, 776),
  (53, .return_, 1, 54, .null, 0, 0, 0)]
set_option maxRecDepth 100000 in
theorem ek_M_item : e_M_item.all (eok 4 c_M_item) = true := by decide +kernel
def F_M_item_53 (w : A_W) : Option (A_W) :=
  some w
def F_M_item_0 (t : Nat) (w : A_W) : Option (A_W) :=
  (gi w t 4 10).bind fun v1 =>
  if 6 < v1 then
    (gi w t 4 10).bind fun v3 =>
    if v3 = 12 then
      (ob w t 4).bind fun o13 =>
      (F_M_girlItem t w).bind fun p12 =>
      F_M_item_53 p12
    else
      (ob w t 4).bind fun o6 =>
      (F_M_takes t 14 w).bind fun p5 =>
      if p5.1 = 0 then
        (bz 1).bind fun b9 =>
        (pf p5.2 t 4 14 (.int b9)).bind fun w8 =>
        F_M_item_53 w8
      else
        (ob p5.2 t 4).bind fun o11 =>
        (F_M_standItem t p5.2).bind fun p10 =>
        F_M_item_53 p10
  else
    (ob w t 4).bind fun o15 =>
    (F_M_depositItem t w).bind fun p14 =>
    F_M_item_53 p14
set_option maxHeartbeats 4000000 in
set_option maxRecDepth 100000 in
theorem s_M_item_53 {G : Gx} {X : Cx} {res : A_W} (K : Ok G X 4 c_M_item 1 (none) rm_M_item) (hQ : QQ G X none res 0 0) (w : A_W) (h : F_M_item_53 w = some res) : Sm G X w 0 0 [none] [] 53 := by
  unfold F_M_item_53 at h
  obtain rfl := Option.some.inj h
  exact Sm_retv K hQ (eok_i (eo ek_M_item (i := 24) rfl) rfl)
set_option maxHeartbeats 4000000 in
set_option maxRecDepth 100000 in
theorem s_M_item_0 {G : Gx} {X : Cx} {res : A_W} (K : Ok G X 4 c_M_item 1 (none) rm_M_item) (hQ : QQ G X none res 0 0) (t : Nat) (w : A_W) (h : F_M_item_0 t w = some res) : Sm G X w 0 0 [some (.ref t)] [] 0 := by
  unfold F_M_item_0 at h
  refine Sm_run K ek_M_item 0 1 rfl ?_
  obtain ⟨v1, e_v1, h⟩ := Option.bind_eq_some_iff.mp h
  refine Sm_gi K (eo ek_M_item (i := 1) rfl) e_v1 ?_
  refine Sm_run K ek_M_item 2 1 rfl ?_
  refine Sm_ic_gt K (eo ek_M_item (i := 3) rfl) (fun c2 => ?_) (fun c2 => ?_)
  · rw [if_pos c2] at h
    refine Sm_run K ek_M_item 7 1 rfl ?_
    obtain ⟨v3, e_v3, h⟩ := Option.bind_eq_some_iff.mp h
    refine Sm_gi K (eo ek_M_item (i := 8) rfl) e_v3 ?_
    refine Sm_run K ek_M_item 9 1 rfl ?_
    refine Sm_ic_ne K (eo ek_M_item (i := 10) rfl) (fun c4 => ?_) (fun c4 => ?_)
    · rw [if_neg c4] at h
      refine Sm_run K ek_M_item 14 2 rfl ?_
      obtain ⟨o6, e_o6, h⟩ := Option.bind_eq_some_iff.mp h
      obtain ⟨p5, e_p5, h⟩ := Option.bind_eq_some_iff.mp h
      refine Sm_callV K (eok_i (eo ek_M_item (i := 16) rfl) rfl) cy_M_takes im_M_takes se_M_takes (lgm 1139 (by decide +kernel) rfl) ⟨Nat.le_of_ble_eq_true rfl, Nat.le_of_ble_eq_true rfl⟩ (as := [.int 14]) (b := t) (st := []) (ob_e e_o6) (by decide) rfl rfl rfl rfl (Nat.le_of_ble_eq_true rfl) ⟨Nat.le_of_ble_eq_true rfl, Nat.le_of_ble_eq_true rfl⟩ (cn_M_takes e_p5) ?_
      refine Sm_eq (st1 := .int p5.1 :: []) (nc1 := 0) (ns1 := 0) rfl rfl rfl ?_
      refine Sm_if_eq K (eo ek_M_item (i := 17) rfl) (fun c7 => ?_) (fun c7 => ?_)
      · rw [if_pos c7] at h
        refine Sm_run K ek_M_item 21 2 rfl ?_
        obtain ⟨b9, e_b9, h⟩ := Option.bind_eq_some_iff.mp h
        obtain ⟨w8, e_w8, h⟩ := Option.bind_eq_some_iff.mp h
        refine Sm_pz K (eo ek_M_item (i := 23) rfl) rfl rfl e_b9 e_w8 ?_
        exact Sm_le (leR_n leR_nil) (s_M_item_53 K hQ _ h)
      · rw [if_neg c7] at h
        refine Sm_run K ek_M_item 18 1 rfl ?_
        obtain ⟨o11, e_o11, h⟩ := Option.bind_eq_some_iff.mp h
        obtain ⟨p10, e_p10, h⟩ := Option.bind_eq_some_iff.mp h
        refine Sm_callV K (eok_i (eo ek_M_item (i := 19) rfl) rfl) cy_M_standItem im_M_standItem se_M_standItem (lgm 1151 (by decide +kernel) rfl) ⟨Nat.le_of_ble_eq_true rfl, Nat.le_of_ble_eq_true rfl⟩ (as := []) (b := t) (st := []) (ob_e e_o11) (by decide) rfl rfl rfl rfl (Nat.le_of_ble_eq_true rfl) ⟨Nat.le_of_ble_eq_true rfl, Nat.le_of_ble_eq_true rfl⟩ (cn_M_standItem e_p10) ?_
        refine Sm_eq (st1 := []) (nc1 := 0) (ns1 := 0) rfl rfl rfl ?_
        refine Sm_run K ek_M_item 20 1 rfl ?_
        exact Sm_le (leR_n leR_nil) (s_M_item_53 K hQ _ h)
    · rw [if_pos c4] at h
      refine Sm_run K ek_M_item 11 1 rfl ?_
      obtain ⟨o13, e_o13, h⟩ := Option.bind_eq_some_iff.mp h
      obtain ⟨p12, e_p12, h⟩ := Option.bind_eq_some_iff.mp h
      refine Sm_callV K (eok_i (eo ek_M_item (i := 12) rfl) rfl) cy_M_girlItem im_M_girlItem se_M_girlItem (lgm 1147 (by decide +kernel) rfl) ⟨Nat.le_of_ble_eq_true rfl, Nat.le_of_ble_eq_true rfl⟩ (as := []) (b := t) (st := []) (ob_e e_o13) (by decide) rfl rfl rfl rfl (Nat.le_of_ble_eq_true rfl) ⟨Nat.le_of_ble_eq_true rfl, Nat.le_of_ble_eq_true rfl⟩ (cn_M_girlItem e_p12) ?_
      refine Sm_eq (st1 := []) (nc1 := 0) (ns1 := 0) rfl rfl rfl ?_
      refine Sm_run K ek_M_item 13 1 rfl ?_
      exact Sm_le (leR_n leR_nil) (s_M_item_53 K hQ _ h)
  · rw [if_neg c2] at h
    refine Sm_run K ek_M_item 4 1 rfl ?_
    obtain ⟨o15, e_o15, h⟩ := Option.bind_eq_some_iff.mp h
    obtain ⟨p14, e_p14, h⟩ := Option.bind_eq_some_iff.mp h
    refine Sm_callV K (eok_i (eo ek_M_item (i := 5) rfl) rfl) cy_M_depositItem im_M_depositItem se_M_depositItem (lgm 1131 (by decide +kernel) rfl) ⟨Nat.le_of_ble_eq_true rfl, Nat.le_of_ble_eq_true rfl⟩ (as := []) (b := t) (st := []) (ob_e e_o15) (by decide) rfl rfl rfl rfl (Nat.le_of_ble_eq_true rfl) ⟨Nat.le_of_ble_eq_true rfl, Nat.le_of_ble_eq_true rfl⟩ (cn_M_depositItem e_p14) ?_
    refine Sm_eq (st1 := []) (nc1 := 0) (ns1 := 0) rfl rfl rfl ?_
    refine Sm_run K ek_M_item 6 1 rfl ?_
    exact Sm_le (leR_n leR_nil) (s_M_item_53 K hQ _ h)
def F_M_item (t : Nat) (w : A_W) : Option (A_W) := F_M_item_0 t w
theorem cn_M_item {G : Gx} {t : Nat} {w : A_W} {res : A_W} (h : F_M_item t w = some res) : Cn G y_M_item c_M_item 1 (none) rm_M_item [.ref t] w none res :=
  Cn_of (own := 4) cy_M_item rfl rfl (Nat.le_of_ble_eq_true rfl) rfl (fun X K _ hQ => Sm_le (leR_s leR_nil) (s_M_item_0 K hQ _ _ h))
/-! EveningCloakModel.text()I -/
abbrev c_M_text : ByteArray := prog_6_method_87_code
def y_M_text : MethodName := ⟨"EveningCloakModel", "text", "()I"⟩
def rm_M_text : Room := { frames := 7, cells := 0, slots := 0, locals := 159 }
theorem cy_M_text : Cy y_M_text c_M_text 2 (some .int) 0 := ⟨lgm 1108 (by decide +kernel) rfl, lgm 73 (by decide +kernel) rfl, by decide +kernel, by decide +kernel⟩
theorem im_M_text : Cond.instanceMethod y_M_text ∈ lg := lgm 1106 (by decide +kernel) rfl
theorem se_M_text : Cond.selects y_M_text.cls y_M_text y_M_text ∈ lg := lgm 1107 (by decide +kernel) rfl
def e_M_text : List Ent := [
  (0, .aload_n 0, 1, 1, .null, 0, 0, 0),
  (1, .invokevirtual 142, 3, 4, .null, 0, 0, 0),
  (4, .aload_n 0, 1, 5, .null, 0, 0, 0),
  (5, .iconst 0, 1, 6, .int 0, 0, 0, 0),
  (6, .putfield 199, 3, 9, .null, 4, 12, 774),
  (9, .aload_n 0, 1, 10, .null, 0, 0, 0),
  (10, .iconst 0, 1, 11, .int 0, 0, 0, 0),
  (11, .putfield 217, 3, 14, .null, 4, 14, 776),
  (14, .aload_n 0, 1, 15, .null, 0, 0, 0),
  (15, .invokevirtual 221, 3, 18, .null, 0, 0, 0),
  (18, .aload_n 0, 1, 19, .null, 0, 0, 0),
  (19, .invokevirtual 242, 3, 22, .null, 0, 0, 0),
  (22, .iconst 1, 1, 23, .int 1, 0, 0, 0),
  (23, .istore_n 1, 1, 24, .null, 0, 0, 0),
  (24, .aload_n 0, 1, 25, .null, 0, 0, 0),
  (25, .bipush 21, 2, 27, .int 21, 0, 0, 0),
  (27, .invokevirtual 224, 3, 30, .null, 0, 0, 0),
  (30, .ifCond .eq 13, 3, 43, .null, 0, 0, 0),
  (33, .aload_n 0, 1, 34, .null, 0, 0, 0),
  (34, .invokevirtual 242, 3, 37, .null, 0, 0, 0),
  (37, .iinc 1 1, 3, 40, .int 1, 0, 0, 0),
  (40, .goto (-16), 3, 24, .null, 0, 0, 0),
  (43, .aload_n 0, 1, 44, .null, 0, 0, 0),
  (44, .aload_n 0, 1, 45, .null, 0, 0, 0),
  (45, .getfield 217, 3, 48, .null, 4, 14, 776),
  (48, .ifCond .ne 12, 3, 60, .null, 0, 0, 0),
  (51, .aload_n 0, 1, 52, .null, 0, 0, 0),
  (52, .getfield 211, 3, 55, .null, 4, 10, 772),
  (55, .bipush 22, 2, 57, .int 22, 0, 0, 0),
  (57, .if_icmp .eq 7, 3, 64, .null, 0, 0, 0),
  (60, .iconst 1, 1, 61, .int 1, 0, 0, 0),
  (61, .goto 4, 3, 65, .null, 0, 0, 0),
  (64, .iconst 0, 1, 65, .int 0, 0, 0, 0),
  (65, .putfield 217, 3, 68, .null, 4, 14, 776),
  (68, .aload_n 0, 1, 69, .null, 0, 0, 0),
  (69, .iconst 0, 1, 70, .int 0, 0, 0, 0),
  (70, .putfield 189, 3, 73, .null, 4, 9, 771),
  (73, .aload_n 0, 1, 74, .null, 0, 0, 0),
  (74, .getfield 217, 3, 77, .null, 4, 14, 776),
  (77, .ifCond .ne 5, 3, 82, .null, 0, 0, 0),
  (80, .iload_n 1, 1, 81, .null, 0, 0, 0),
  (81, .ireturn, 1, 82, .null, 0, 0, 0),
  (82, .aload_n 0, 1, 83, .null, 0, 0, 0),
  (83, .invokevirtual 145, 3, 86, .null, 0, 0, 0),
  (86, .iconst (-1), 1, 87, .int (-1), 0, 0, 0),
  (87, .aload_n 0, 1, 88, .null, 0, 0, 0),
  (88, .getfield 196, 3, 91, .null, 4, 11, 773),
  (91, .isub, 1, 92, .null, 0, 0, 0),
  (92, .ireturn, 1, 93, .null, 0, 0, 0)]
set_option maxRecDepth 100000 in
theorem ek_M_text : e_M_text.all (eok 4 c_M_text) = true := by decide +kernel
def F_M_text_65 (t : Nat) (x1 : Int32) (y0 : Nat) (y1 : Int32) (w : A_W) : Option (Int32 × A_W) :=
  (bz y1).bind fun b2 =>
  (pf w y0 4 14 (.int b2)).bind fun w1 =>
  (pf w1 t 4 9 (.int 0)).bind fun w3 =>
  (gi w3 t 4 14).bind fun v4 =>
  if v4 = 0 then
    some (x1, w3)
  else
    (ob w3 t 4).bind fun o7 =>
    (F_M_putsBack t w3).bind fun p6 =>
    (gi p6 t 4 11).bind fun v8 =>
    some (((-1) - v8), p6)
def F_M_text_60 (t : Nat) (x1 : Int32) (y0 : Nat) (w : A_W) : Option (Int32 × A_W) :=
  F_M_text_65 t x1 y0 1 w
def F_M_text_24 : Nat → Nat → Int32 → A_W → Option (Int32 × A_W)
  | 0, _, _, _ => none
  | n + 1, t, x1, w =>
    (ob w t 4).bind fun o2 =>
    (F_M_takes t 21 w).bind fun p1 =>
    if p1.1 = 0 then
      (gi p1.2 t 4 14).bind fun v4 =>
      if v4 = 0 then
        (gi p1.2 t 4 10).bind fun v6 =>
        if v6 = 22 then
          F_M_text_65 t x1 t 0 p1.2
        else
          F_M_text_60 t x1 t p1.2
      else
        F_M_text_60 t x1 t p1.2
    else
      (ob p1.2 t 4).bind fun o9 =>
      (F_M_item t p1.2).bind fun p8 =>
      F_M_text_24 n t (x1 + 1) p8
def F_M_text_0 (t : Nat) (w : A_W) : Option (Int32 × A_W) :=
  (ob w t 4).bind fun o2 =>
  (F_M_thinks t w).bind fun p1 =>
  (pf p1 t 4 12 (.int 0)).bind fun w3 =>
  (bz 0).bind fun b5 =>
  (pf w3 t 4 14 (.int b5)).bind fun w4 =>
  (ob w4 t 4).bind fun o7 =>
  (F_M_reads t w4).bind fun p6 =>
  (ob p6 t 4).bind fun o9 =>
  (F_M_item t p6).bind fun p8 =>
  F_M_text_24 FU t 1 p8
set_option maxHeartbeats 4000000 in
set_option maxRecDepth 100000 in
theorem s_M_text_65 {G : Gx} {X : Cx} {res : Int32 × A_W} (K : Ok G X 4 c_M_text 2 (some .int) rm_M_text) (hQ : QQ G X (some (.int res.1)) res.2 0 0) (t : Nat) (x1 : Int32) (y0 : Nat) (y1 : Int32) (w : A_W) (h : F_M_text_65 t x1 y0 y1 w = some res) : Sm G X w 0 0 [some (.ref t), some (.int x1)] [.int y1, .ref y0] 65 := by
  unfold F_M_text_65 at h
  obtain ⟨b2, e_b2, h⟩ := Option.bind_eq_some_iff.mp h
  obtain ⟨w1, e_w1, h⟩ := Option.bind_eq_some_iff.mp h
  refine Sm_pz K (eo ek_M_text (i := 33) rfl) rfl rfl e_b2 e_w1 ?_
  refine Sm_run K ek_M_text 34 2 rfl ?_
  obtain ⟨w3, e_w3, h⟩ := Option.bind_eq_some_iff.mp h
  refine Sm_pi K (eo ek_M_text (i := 36) rfl) rfl rfl e_w3 ?_
  refine Sm_run K ek_M_text 37 1 rfl ?_
  obtain ⟨v4, e_v4, h⟩ := Option.bind_eq_some_iff.mp h
  refine Sm_gi K (eo ek_M_text (i := 38) rfl) e_v4 ?_
  refine Sm_if_ne K (eo ek_M_text (i := 39) rfl) (fun c5 => ?_) (fun c5 => ?_)
  · rw [if_neg c5] at h
    refine Sm_run K ek_M_text 42 1 rfl ?_
    obtain ⟨o7, e_o7, h⟩ := Option.bind_eq_some_iff.mp h
    obtain ⟨p6, e_p6, h⟩ := Option.bind_eq_some_iff.mp h
    refine Sm_callV K (eok_i (eo ek_M_text (i := 43) rfl) rfl) cy_M_putsBack im_M_putsBack se_M_putsBack (lgm 987 (by decide +kernel) rfl) ⟨Nat.le_of_ble_eq_true rfl, Nat.le_of_ble_eq_true rfl⟩ (as := []) (b := t) (st := []) (ob_e e_o7) (by decide) rfl rfl rfl rfl (Nat.le_of_ble_eq_true rfl) ⟨Nat.le_of_ble_eq_true rfl, Nat.le_of_ble_eq_true rfl⟩ (cn_M_putsBack e_p6) ?_
    refine Sm_eq (st1 := []) (nc1 := 0) (ns1 := 0) rfl rfl rfl ?_
    refine Sm_run K ek_M_text 44 2 rfl ?_
    obtain ⟨v8, e_v8, h⟩ := Option.bind_eq_some_iff.mp h
    refine Sm_gi K (eo ek_M_text (i := 46) rfl) e_v8 ?_
    refine Sm_run K ek_M_text 47 1 rfl ?_
    obtain rfl := Option.some.inj h
    exact Sm_reti K hQ (eok_i (eo ek_M_text (i := 48) rfl) rfl)
  · rw [if_pos c5] at h
    refine Sm_run K ek_M_text 40 1 rfl ?_
    obtain rfl := Option.some.inj h
    exact Sm_reti K hQ (eok_i (eo ek_M_text (i := 41) rfl) rfl)
set_option maxHeartbeats 4000000 in
set_option maxRecDepth 100000 in
theorem s_M_text_60 {G : Gx} {X : Cx} {res : Int32 × A_W} (K : Ok G X 4 c_M_text 2 (some .int) rm_M_text) (hQ : QQ G X (some (.int res.1)) res.2 0 0) (t : Nat) (x1 : Int32) (y0 : Nat) (w : A_W) (h : F_M_text_60 t x1 y0 w = some res) : Sm G X w 0 0 [some (.ref t), some (.int x1)] [.ref y0] 60 := by
  unfold F_M_text_60 at h
  refine Sm_run K ek_M_text 30 2 rfl ?_
  exact Sm_le (leR_s (leR_s leR_nil)) (s_M_text_65 K hQ _ _ _ _ _ h)
set_option maxHeartbeats 4000000 in
set_option maxRecDepth 100000 in
theorem s_M_text_24 {G : Gx} {X : Cx} {res : Int32 × A_W} (K : Ok G X 4 c_M_text 2 (some .int) rm_M_text) (hQ : QQ G X (some (.int res.1)) res.2 0 0) : ∀ (n : Nat) (t : Nat) (x1 : Int32) (w : A_W), F_M_text_24 n t x1 w = some res → Sm G X w 0 0 [some (.ref t), some (.int x1)] [] 24 := by
  intro n
  induction n with
  | zero => intro t x1 w h; cases h
  | succ n ih =>
    intro t x1 w h
    rw [F_M_text_24] at h
    refine Sm_run K ek_M_text 14 2 rfl ?_
    obtain ⟨o2, e_o2, h⟩ := Option.bind_eq_some_iff.mp h
    obtain ⟨p1, e_p1, h⟩ := Option.bind_eq_some_iff.mp h
    refine Sm_callV K (eok_i (eo ek_M_text (i := 16) rfl) rfl) cy_M_takes im_M_takes se_M_takes (lgm 1139 (by decide +kernel) rfl) ⟨Nat.le_of_ble_eq_true rfl, Nat.le_of_ble_eq_true rfl⟩ (as := [.int 21]) (b := t) (st := []) (ob_e e_o2) (by decide) rfl rfl rfl rfl (Nat.le_of_ble_eq_true rfl) ⟨Nat.le_of_ble_eq_true rfl, Nat.le_of_ble_eq_true rfl⟩ (cn_M_takes e_p1) ?_
    refine Sm_eq (st1 := .int p1.1 :: []) (nc1 := 0) (ns1 := 0) rfl rfl rfl ?_
    refine Sm_if_eq K (eo ek_M_text (i := 17) rfl) (fun c3 => ?_) (fun c3 => ?_)
    · rw [if_pos c3] at h
      refine Sm_run K ek_M_text 22 2 rfl ?_
      obtain ⟨v4, e_v4, h⟩ := Option.bind_eq_some_iff.mp h
      refine Sm_gi K (eo ek_M_text (i := 24) rfl) e_v4 ?_
      refine Sm_if_ne K (eo ek_M_text (i := 25) rfl) (fun c5 => ?_) (fun c5 => ?_)
      · rw [if_neg c5] at h
        exact Sm_le (leR_s (leR_s leR_nil)) (s_M_text_60 K hQ _ _ _ _ h)
      · rw [if_pos c5] at h
        refine Sm_run K ek_M_text 26 1 rfl ?_
        obtain ⟨v6, e_v6, h⟩ := Option.bind_eq_some_iff.mp h
        refine Sm_gi K (eo ek_M_text (i := 27) rfl) e_v6 ?_
        refine Sm_run K ek_M_text 28 1 rfl ?_
        refine Sm_ic_eq K (eo ek_M_text (i := 29) rfl) (fun c7 => ?_) (fun c7 => ?_)
        · rw [if_pos c7] at h
          refine Sm_run K ek_M_text 32 1 rfl ?_
          exact Sm_le (leR_s (leR_s leR_nil)) (s_M_text_65 K hQ _ _ _ _ _ h)
        · rw [if_neg c7] at h
          exact Sm_le (leR_s (leR_s leR_nil)) (s_M_text_60 K hQ _ _ _ _ h)
    · rw [if_neg c3] at h
      refine Sm_run K ek_M_text 18 1 rfl ?_
      obtain ⟨o9, e_o9, h⟩ := Option.bind_eq_some_iff.mp h
      obtain ⟨p8, e_p8, h⟩ := Option.bind_eq_some_iff.mp h
      refine Sm_callV K (eok_i (eo ek_M_text (i := 19) rfl) rfl) cy_M_item im_M_item se_M_item (lgm 1127 (by decide +kernel) rfl) ⟨Nat.le_of_ble_eq_true rfl, Nat.le_of_ble_eq_true rfl⟩ (as := []) (b := t) (st := []) (ob_e e_o9) (by decide) rfl rfl rfl rfl (Nat.le_of_ble_eq_true rfl) ⟨Nat.le_of_ble_eq_true rfl, Nat.le_of_ble_eq_true rfl⟩ (cn_M_item e_p8) ?_
      refine Sm_eq (st1 := []) (nc1 := 0) (ns1 := 0) rfl rfl rfl ?_
      refine Sm_run K ek_M_text 20 2 rfl ?_
      exact Sm_le (leR_s (leR_s leR_nil)) (ih _ _ _ h)
set_option maxHeartbeats 4000000 in
set_option maxRecDepth 100000 in
theorem s_M_text_0 {G : Gx} {X : Cx} {res : Int32 × A_W} (K : Ok G X 4 c_M_text 2 (some .int) rm_M_text) (hQ : QQ G X (some (.int res.1)) res.2 0 0) (t : Nat) (w : A_W) (h : F_M_text_0 t w = some res) : Sm G X w 0 0 [some (.ref t), none] [] 0 := by
  unfold F_M_text_0 at h
  refine Sm_run K ek_M_text 0 1 rfl ?_
  obtain ⟨o2, e_o2, h⟩ := Option.bind_eq_some_iff.mp h
  obtain ⟨p1, e_p1, h⟩ := Option.bind_eq_some_iff.mp h
  refine Sm_callV K (eok_i (eo ek_M_text (i := 1) rfl) rfl) cy_M_thinks im_M_thinks se_M_thinks (lgm 980 (by decide +kernel) rfl) ⟨Nat.le_of_ble_eq_true rfl, Nat.le_of_ble_eq_true rfl⟩ (as := []) (b := t) (st := []) (ob_e e_o2) (by decide) rfl rfl rfl rfl (Nat.le_of_ble_eq_true rfl) ⟨Nat.le_of_ble_eq_true rfl, Nat.le_of_ble_eq_true rfl⟩ (cn_M_thinks e_p1) ?_
  refine Sm_eq (st1 := []) (nc1 := 0) (ns1 := 0) rfl rfl rfl ?_
  refine Sm_run K ek_M_text 2 2 rfl ?_
  obtain ⟨w3, e_w3, h⟩ := Option.bind_eq_some_iff.mp h
  refine Sm_pi K (eo ek_M_text (i := 4) rfl) rfl rfl e_w3 ?_
  refine Sm_run K ek_M_text 5 2 rfl ?_
  obtain ⟨b5, e_b5, h⟩ := Option.bind_eq_some_iff.mp h
  obtain ⟨w4, e_w4, h⟩ := Option.bind_eq_some_iff.mp h
  refine Sm_pz K (eo ek_M_text (i := 7) rfl) rfl rfl e_b5 e_w4 ?_
  refine Sm_run K ek_M_text 8 1 rfl ?_
  obtain ⟨o7, e_o7, h⟩ := Option.bind_eq_some_iff.mp h
  obtain ⟨p6, e_p6, h⟩ := Option.bind_eq_some_iff.mp h
  refine Sm_callV K (eok_i (eo ek_M_text (i := 9) rfl) rfl) cy_M_reads im_M_reads se_M_reads (lgm 1109 (by decide +kernel) rfl) ⟨Nat.le_of_ble_eq_true rfl, Nat.le_of_ble_eq_true rfl⟩ (as := []) (b := t) (st := []) (ob_e e_o7) (by decide) rfl rfl rfl rfl (Nat.le_of_ble_eq_true rfl) ⟨Nat.le_of_ble_eq_true rfl, Nat.le_of_ble_eq_true rfl⟩ (cn_M_reads e_p6) ?_
  refine Sm_eq (st1 := []) (nc1 := 0) (ns1 := 0) rfl rfl rfl ?_
  refine Sm_run K ek_M_text 10 1 rfl ?_
  obtain ⟨o9, e_o9, h⟩ := Option.bind_eq_some_iff.mp h
  obtain ⟨p8, e_p8, h⟩ := Option.bind_eq_some_iff.mp h
  refine Sm_callV K (eok_i (eo ek_M_text (i := 11) rfl) rfl) cy_M_item im_M_item se_M_item (lgm 1127 (by decide +kernel) rfl) ⟨Nat.le_of_ble_eq_true rfl, Nat.le_of_ble_eq_true rfl⟩ (as := []) (b := t) (st := []) (ob_e e_o9) (by decide) rfl rfl rfl rfl (Nat.le_of_ble_eq_true rfl) ⟨Nat.le_of_ble_eq_true rfl, Nat.le_of_ble_eq_true rfl⟩ (cn_M_item e_p8) ?_
  refine Sm_eq (st1 := []) (nc1 := 0) (ns1 := 0) rfl rfl rfl ?_
  refine Sm_run K ek_M_text 12 2 rfl ?_
  exact Sm_le (leR_s (leR_s leR_nil)) (s_M_text_24 K hQ FU _ _ _ h)
def F_M_text (t : Nat) (w : A_W) : Option (Int32 × A_W) := F_M_text_0 t w
theorem cn_M_text {G : Gx} {t : Nat} {w : A_W} {res : Int32 × A_W} (h : F_M_text t w = some res) : Cn G y_M_text c_M_text 2 (some .int) rm_M_text [.ref t] w (some (.int res.1)) res.2 :=
  Cn_of (own := 4) cy_M_text rfl rfl (Nat.le_of_ble_eq_true rfl) rfl (fun X K _ hQ => Sm_le (leR_s (leR_n leR_nil)) (s_M_text_0 K hQ _ _ h))
/-! EveningCloakModel.hold(II)I -/
abbrev c_M_hold : ByteArray := prog_6_method_88_code
def y_M_hold : MethodName := ⟨"EveningCloakModel", "hold", "(II)I"⟩
def rm_M_hold : Room := { frames := 2, cells := 0, slots := 0, locals := 43 }
theorem cy_M_hold : Cy y_M_hold c_M_hold 3 (some .int) 2 := ⟨lgm 1158 (by decide +kernel) rfl, lgm 73 (by decide +kernel) rfl, by decide +kernel, by decide +kernel⟩
theorem im_M_hold : Cond.instanceMethod y_M_hold ∈ lg := lgm 1156 (by decide +kernel) rfl
theorem se_M_hold : Cond.selects y_M_hold.cls y_M_hold y_M_hold ∈ lg := lgm 1157 (by decide +kernel) rfl
def e_M_hold : List Ent := [
  (0, .iload_n 1, 1, 1, .null, 0, 0, 0),
  (1, .iconst 0, 1, 2, .int 0, 0, 0, 0),
  (2, .bipush 9, 2, 4, .int 9, 0, 0, 0),
  (4, .invokestatic 40, 3, 7, .null, 0, 0, 0),
  (7, .ifCond .eq 16, 3, 23, .null, 0, 0, 0),
  (10, .iload_n 2, 1, 11, .null, 0, 0, 0),
  (11, .iconst (-1), 1, 12, .int (-1), 0, 0, 0),
  (12, .if_icmp .eq 18, 3, 30, .null, 0, 0, 0),
  (15, .aload_n 0, 1, 16, .null, 0, 0, 0),
  (16, .iload_n 2, 1, 17, .null, 0, 0, 0),
  (17, .invokevirtual 88, 3, 20, .null, 0, 0, 0),
  (20, .ifCond .ne 10, 3, 30, .null, 0, 0, 0),
  (23, .aload_n 0, 1, 24, .null, 0, 0, 0),
  (24, .ldc 34, 2, 26, .int (-1000001), 0, 0, 825),
  (26, .invokevirtual 36, 3, 29, .null, 0, 0, 0),
  (29, .ireturn, 1, 30, .null, 0, 0, 0),
  (30, .aload_n 0, 1, 31, .null, 0, 0, 0),
  (31, .getfield 9, 3, 34, .null, 4, 0, 762),
  (34, .bipush 77, 2, 36, .int 77, 0, 0, 0),
  (36, .iload_n 1, 1, 37, .null, 0, 0, 0),
  (37, .iadd, 1, 38, .null, 0, 0, 0),
  (38, .iload_n 2, 1, 39, .null, 0, 0, 0),
  (39, .iastore, 1, 40, .null, 0, 0, 0),
  (40, .iconst 1, 1, 41, .int 1, 0, 0, 0),
  (41, .ireturn, 1, 42, .null, 0, 0, 0)]
set_option maxRecDepth 100000 in
theorem ek_M_hold : e_M_hold.all (eok 4 c_M_hold) = true := by decide +kernel
def F_M_hold_23 (t : Nat) (w : A_W) : Option (Int32 × A_W) :=
  (ob w t 4).bind fun o2 =>
  (F_M_finds t (-1000001) w).bind fun p1 =>
  some (p1.1, p1.2)
def F_M_hold_30 (t : Nat) (x1 : Int32) (x2 : Int32) (w : A_W) : Option (Int32 × A_W) :=
  (gr w t 4 0).bind fun a1 =>
  (wr w a1 (77 + x1) x2).bind fun w2 =>
  some (1, w2)
def F_M_hold_0 (t : Nat) (x1 : Int32) (x2 : Int32) (w : A_W) : Option (Int32 × A_W) :=
  (F_M_in x1 0 9 w).bind fun p1 =>
  if p1.1 = 0 then
    F_M_hold_23 t p1.2
  else
    if x2 = (-1) then
      F_M_hold_30 t x1 x2 p1.2
    else
      (ob p1.2 t 4).bind fun o5 =>
      (F_M_isDeposit t x2 p1.2).bind fun p4 =>
      if p4.1 = 0 then
        F_M_hold_23 t p4.2
      else
        F_M_hold_30 t x1 x2 p4.2
set_option maxHeartbeats 4000000 in
set_option maxRecDepth 100000 in
theorem s_M_hold_23 {G : Gx} {X : Cx} {res : Int32 × A_W} (K : Ok G X 4 c_M_hold 3 (some .int) rm_M_hold) (hQ : QQ G X (some (.int res.1)) res.2 0 0) (t : Nat) (w : A_W) (h : F_M_hold_23 t w = some res) : Sm G X w 0 0 [some (.ref t), none, none] [] 23 := by
  unfold F_M_hold_23 at h
  refine Sm_run K ek_M_hold 12 2 rfl ?_
  obtain ⟨o2, e_o2, h⟩ := Option.bind_eq_some_iff.mp h
  obtain ⟨p1, e_p1, h⟩ := Option.bind_eq_some_iff.mp h
  refine Sm_callV K (eok_i (eo ek_M_hold (i := 14) rfl) rfl) cy_M_finds im_M_finds se_M_finds (lgm 826 (by decide +kernel) rfl) ⟨Nat.le_of_ble_eq_true rfl, Nat.le_of_ble_eq_true rfl⟩ (as := [.int (-1000001)]) (b := t) (st := []) (ob_e e_o2) (by decide) rfl rfl rfl rfl (Nat.le_of_ble_eq_true rfl) ⟨Nat.le_of_ble_eq_true rfl, Nat.le_of_ble_eq_true rfl⟩ (cn_M_finds e_p1) ?_
  refine Sm_eq (st1 := .int p1.1 :: []) (nc1 := 0) (ns1 := 0) rfl rfl rfl ?_
  obtain rfl := Option.some.inj h
  exact Sm_reti K hQ (eok_i (eo ek_M_hold (i := 15) rfl) rfl)
set_option maxHeartbeats 4000000 in
set_option maxRecDepth 100000 in
theorem s_M_hold_30 {G : Gx} {X : Cx} {res : Int32 × A_W} (K : Ok G X 4 c_M_hold 3 (some .int) rm_M_hold) (hQ : QQ G X (some (.int res.1)) res.2 0 0) (t : Nat) (x1 : Int32) (x2 : Int32) (w : A_W) (h : F_M_hold_30 t x1 x2 w = some res) : Sm G X w 0 0 [some (.ref t), some (.int x1), some (.int x2)] [] 30 := by
  unfold F_M_hold_30 at h
  refine Sm_run K ek_M_hold 16 1 rfl ?_
  obtain ⟨a1, e_a1, h⟩ := Option.bind_eq_some_iff.mp h
  refine Sm_gr K (eo ek_M_hold (i := 17) rfl) e_a1 ?_
  refine Sm_run K ek_M_hold 18 4 rfl ?_
  obtain ⟨w2, e_w2, h⟩ := Option.bind_eq_some_iff.mp h
  refine Sm_wr K (eok_i (eo ek_M_hold (i := 22) rfl) rfl) e_w2 ?_
  refine Sm_run K ek_M_hold 23 1 rfl ?_
  obtain rfl := Option.some.inj h
  exact Sm_reti K hQ (eok_i (eo ek_M_hold (i := 24) rfl) rfl)
set_option maxHeartbeats 4000000 in
set_option maxRecDepth 100000 in
theorem s_M_hold_0 {G : Gx} {X : Cx} {res : Int32 × A_W} (K : Ok G X 4 c_M_hold 3 (some .int) rm_M_hold) (hQ : QQ G X (some (.int res.1)) res.2 0 0) (t : Nat) (x1 : Int32) (x2 : Int32) (w : A_W) (h : F_M_hold_0 t x1 x2 w = some res) : Sm G X w 0 0 [some (.ref t), some (.int x1), some (.int x2)] [] 0 := by
  unfold F_M_hold_0 at h
  refine Sm_run K ek_M_hold 0 3 rfl ?_
  obtain ⟨p1, e_p1, h⟩ := Option.bind_eq_some_iff.mp h
  refine Sm_callS K (eok_i (eo ek_M_hold (i := 3) rfl) rfl) cy_M_in st_M_in (lgm 815 (by decide +kernel) rfl) ⟨Nat.le_of_ble_eq_true rfl, Nat.le_of_ble_eq_true rfl⟩ (as := [.int x1, .int 0, .int 9]) (st := []) rfl rfl rfl (Nat.le_of_ble_eq_true rfl) ⟨Nat.le_of_ble_eq_true rfl, Nat.le_of_ble_eq_true rfl⟩ (cn_M_in e_p1) ?_
  refine Sm_eq (st1 := .int p1.1 :: []) (nc1 := 0) (ns1 := 0) rfl rfl rfl ?_
  refine Sm_if_eq K (eo ek_M_hold (i := 4) rfl) (fun c2 => ?_) (fun c2 => ?_)
  · rw [if_pos c2] at h
    exact Sm_le (leR_s (leR_n (leR_n leR_nil))) (s_M_hold_23 K hQ _ _ h)
  · rw [if_neg c2] at h
    refine Sm_run K ek_M_hold 5 2 rfl ?_
    refine Sm_ic_eq K (eo ek_M_hold (i := 7) rfl) (fun c3 => ?_) (fun c3 => ?_)
    · rw [if_pos c3] at h
      exact Sm_le (leR_s (leR_s (leR_s leR_nil))) (s_M_hold_30 K hQ _ _ _ _ h)
    · rw [if_neg c3] at h
      refine Sm_run K ek_M_hold 8 2 rfl ?_
      obtain ⟨o5, e_o5, h⟩ := Option.bind_eq_some_iff.mp h
      obtain ⟨p4, e_p4, h⟩ := Option.bind_eq_some_iff.mp h
      refine Sm_callV K (eok_i (eo ek_M_hold (i := 10) rfl) rfl) cy_M_isDeposit im_M_isDeposit se_M_isDeposit (lgm 863 (by decide +kernel) rfl) ⟨Nat.le_of_ble_eq_true rfl, Nat.le_of_ble_eq_true rfl⟩ (as := [.int x2]) (b := t) (st := []) (ob_e e_o5) (by decide) rfl rfl rfl rfl (Nat.le_of_ble_eq_true rfl) ⟨Nat.le_of_ble_eq_true rfl, Nat.le_of_ble_eq_true rfl⟩ (cn_M_isDeposit e_p4) ?_
      refine Sm_eq (st1 := .int p4.1 :: []) (nc1 := 0) (ns1 := 0) rfl rfl rfl ?_
      refine Sm_if_ne K (eo ek_M_hold (i := 11) rfl) (fun c6 => ?_) (fun c6 => ?_)
      · rw [if_neg c6] at h
        exact Sm_le (leR_s (leR_s (leR_s leR_nil))) (s_M_hold_30 K hQ _ _ _ _ h)
      · rw [if_pos c6] at h
        exact Sm_le (leR_s (leR_n (leR_n leR_nil))) (s_M_hold_23 K hQ _ _ h)
def F_M_hold (t : Nat) (x1 : Int32) (x2 : Int32) (w : A_W) : Option (Int32 × A_W) := F_M_hold_0 t x1 x2 w
theorem cn_M_hold {G : Gx} {t : Nat} {x1 : Int32} {x2 : Int32} {w : A_W} {res : Int32 × A_W} (h : F_M_hold t x1 x2 w = some res) : Cn G y_M_hold c_M_hold 3 (some .int) rm_M_hold [.ref t, .int x1, .int x2] w (some (.int res.1)) res.2 :=
  Cn_of (own := 4) cy_M_hold rfl rfl (Nat.le_of_ble_eq_true rfl) rfl (fun X K _ hQ => Sm_le (leR_s (leR_s (leR_s leR_nil))) (s_M_hold_0 K hQ _ _ _ _ h))
