/-! EveningCloak.within(III)Z -/
abbrev c_K_within : ByteArray := prog_1_method_47_code
def y_K_within : MethodName := ⟨"EveningCloak", "within", "(III)Z"⟩
def rm_K_within : Room := { frames := 0, cells := 0, slots := 0, locals := 0 }
theorem cy_K_within : Cy y_K_within c_K_within 3 (some .boolean) 3 := ⟨lgm 245 (by decide +kernel) rfl, lgm 68 (by decide +kernel) rfl, by decide +kernel, by decide +kernel⟩
theorem st_K_within : Cond.static y_K_within ∈ lg := lgm 244 (by decide +kernel) rfl
def e_K_within : List Ent := [
  (0, .iload_n 0, 1, 1, .null, 0, 0, 0),
  (1, .iload_n 1, 1, 2, .null, 0, 0, 0),
  (2, .if_icmp .lt 12, 3, 14, .null, 0, 0, 0),
  (5, .iload_n 0, 1, 6, .null, 0, 0, 0),
  (6, .iload_n 2, 1, 7, .null, 0, 0, 0),
  (7, .if_icmp .gt 7, 3, 14, .null, 0, 0, 0),
  (10, .iconst 1, 1, 11, .int 1, 0, 0, 0),
  (11, .goto 4, 3, 15, .null, 0, 0, 0),
  (14, .iconst 0, 1, 15, .int 0, 0, 0, 0),
  (15, .ireturn, 1, 16, .null, 0, 0, 0)]
set_option maxRecDepth 100000 in
theorem ek_K_within : e_K_within.all (eok 0 c_K_within) = true := by decide +kernel
def F_K_within_15 (y0 : Int32) (w : A_W) : Option (Int32 × A_W) :=
  (bz y0).bind fun b1 =>
  some (b1, w)
def F_K_within_14 (w : A_W) : Option (Int32 × A_W) :=
  F_K_within_15 0 w
def F_K_within_0 (x0 : Int32) (x1 : Int32) (x2 : Int32) (w : A_W) : Option (Int32 × A_W) :=
  if x0 < x1 then
    F_K_within_14 w
  else
    if x2 < x0 then
      F_K_within_14 w
    else
      F_K_within_15 1 w
set_option maxHeartbeats 4000000 in
set_option maxRecDepth 100000 in
theorem s_K_within_15 {G : Gx} {X : Cx} {res : Int32 × A_W} (K : Ok G X 0 c_K_within 3 (some .boolean) rm_K_within) (hQ : QQ G X (some (.int res.1)) res.2 0 0) (y0 : Int32) (w : A_W) (h : F_K_within_15 y0 w = some res) : Sm G X w 0 0 [none, none, none] [.int y0] 15 := by
  unfold F_K_within_15 at h
  obtain ⟨b1, e_b1, h⟩ := Option.bind_eq_some_iff.mp h
  obtain rfl := Option.some.inj h
  exact Sm_retz K e_b1 hQ (eok_i (eo ek_K_within (i := 9) rfl) rfl)
set_option maxHeartbeats 4000000 in
set_option maxRecDepth 100000 in
theorem s_K_within_14 {G : Gx} {X : Cx} {res : Int32 × A_W} (K : Ok G X 0 c_K_within 3 (some .boolean) rm_K_within) (hQ : QQ G X (some (.int res.1)) res.2 0 0) (w : A_W) (h : F_K_within_14 w = some res) : Sm G X w 0 0 [none, none, none] [] 14 := by
  unfold F_K_within_14 at h
  refine Sm_run K ek_K_within 8 1 rfl ?_
  exact Sm_le (leR_n (leR_n (leR_n leR_nil))) (s_K_within_15 K hQ _ _ h)
set_option maxHeartbeats 4000000 in
set_option maxRecDepth 100000 in
theorem s_K_within_0 {G : Gx} {X : Cx} {res : Int32 × A_W} (K : Ok G X 0 c_K_within 3 (some .boolean) rm_K_within) (hQ : QQ G X (some (.int res.1)) res.2 0 0) (x0 : Int32) (x1 : Int32) (x2 : Int32) (w : A_W) (h : F_K_within_0 x0 x1 x2 w = some res) : Sm G X w 0 0 [some (.int x0), some (.int x1), some (.int x2)] [] 0 := by
  unfold F_K_within_0 at h
  refine Sm_run K ek_K_within 0 2 rfl ?_
  refine Sm_ic_lt K (eo ek_K_within (i := 2) rfl) (fun c1 => ?_) (fun c1 => ?_)
  · rw [if_pos c1] at h
    exact Sm_le (leR_n (leR_n (leR_n leR_nil))) (s_K_within_14 K hQ _ h)
  · rw [if_neg c1] at h
    refine Sm_run K ek_K_within 3 2 rfl ?_
    refine Sm_ic_gt K (eo ek_K_within (i := 5) rfl) (fun c2 => ?_) (fun c2 => ?_)
    · rw [if_pos c2] at h
      exact Sm_le (leR_n (leR_n (leR_n leR_nil))) (s_K_within_14 K hQ _ h)
    · rw [if_neg c2] at h
      refine Sm_run K ek_K_within 6 2 rfl ?_
      exact Sm_le (leR_n (leR_n (leR_n leR_nil))) (s_K_within_15 K hQ _ _ h)
def F_K_within (x0 : Int32) (x1 : Int32) (x2 : Int32) (w : A_W) : Option (Int32 × A_W) := F_K_within_0 x0 x1 x2 w
theorem cn_K_within {G : Gx} {x0 : Int32} {x1 : Int32} {x2 : Int32} {w : A_W} {res : Int32 × A_W} (h : F_K_within x0 x1 x2 w = some res) : Cn G y_K_within c_K_within 3 (some .boolean) rm_K_within [.int x0, .int x1, .int x2] w (some (.int res.1)) res.2 :=
  Cn_of (own := 0) cy_K_within rfl rfl (Nat.le_of_ble_eq_true rfl) rfl (fun X K _ hQ => Sm_le (leR_s (leR_s (leR_s leR_nil))) (s_K_within_0 K hQ _ _ _ _ h))
/-! EveningCloak.isHanger(I)Z -/
abbrev c_K_isHanger : ByteArray := prog_1_method_48_code
def y_K_isHanger : MethodName := ⟨"EveningCloak", "isHanger", "(I)Z"⟩
def rm_K_isHanger : Room := { frames := 1, cells := 0, slots := 0, locals := 22 }
theorem cy_K_isHanger : Cy y_K_isHanger c_K_isHanger 1 (some .boolean) 1 := ⟨lgm 248 (by decide +kernel) rfl, lgm 68 (by decide +kernel) rfl, by decide +kernel, by decide +kernel⟩
theorem st_K_isHanger : Cond.static y_K_isHanger ∈ lg := lgm 247 (by decide +kernel) rfl
def e_K_isHanger : List Ent := [
  (0, .iload_n 0, 1, 1, .null, 0, 0, 0),
  (1, .iconst 0, 1, 2, .int 0, 0, 0, 0),
  (2, .bipush 15, 2, 4, .int 15, 0, 0, 0),
  (4, .invokestatic 40, 3, 7, .null, 0, 0, 0),
  (7, .ireturn, 1, 8, .null, 0, 0, 0)]
set_option maxRecDepth 100000 in
theorem ek_K_isHanger : e_K_isHanger.all (eok 0 c_K_isHanger) = true := by decide +kernel
def F_K_isHanger_0 (x0 : Int32) (w : A_W) : Option (Int32 × A_W) :=
  (F_K_within x0 0 15 w).bind fun p1 =>
  (bz p1.1).bind fun b2 =>
  some (b2, p1.2)
set_option maxHeartbeats 4000000 in
set_option maxRecDepth 100000 in
theorem s_K_isHanger_0 {G : Gx} {X : Cx} {res : Int32 × A_W} (K : Ok G X 0 c_K_isHanger 1 (some .boolean) rm_K_isHanger) (hQ : QQ G X (some (.int res.1)) res.2 0 0) (x0 : Int32) (w : A_W) (h : F_K_isHanger_0 x0 w = some res) : Sm G X w 0 0 [some (.int x0)] [] 0 := by
  unfold F_K_isHanger_0 at h
  refine Sm_run K ek_K_isHanger 0 3 rfl ?_
  obtain ⟨p1, e_p1, h⟩ := Option.bind_eq_some_iff.mp h
  refine Sm_callS K (eok_i (eo ek_K_isHanger (i := 3) rfl) rfl) cy_K_within st_K_within (lgm 243 (by decide +kernel) rfl) ⟨Nat.le_of_ble_eq_true rfl, Nat.le_of_ble_eq_true rfl⟩ (as := [.int x0, .int 0, .int 15]) (st := []) rfl rfl rfl (Nat.le_of_ble_eq_true rfl) ⟨Nat.le_of_ble_eq_true rfl, Nat.le_of_ble_eq_true rfl⟩ (cn_K_within e_p1) ?_
  refine Sm_eq (st1 := .int p1.1 :: []) (nc1 := 0) (ns1 := 0) rfl rfl rfl ?_
  obtain ⟨b2, e_b2, h⟩ := Option.bind_eq_some_iff.mp h
  obtain rfl := Option.some.inj h
  exact Sm_retz K e_b2 hQ (eok_i (eo ek_K_isHanger (i := 4) rfl) rfl)
def F_K_isHanger (x0 : Int32) (w : A_W) : Option (Int32 × A_W) := F_K_isHanger_0 x0 w
theorem cn_K_isHanger {G : Gx} {x0 : Int32} {w : A_W} {res : Int32 × A_W} (h : F_K_isHanger x0 w = some res) : Cn G y_K_isHanger c_K_isHanger 1 (some .boolean) rm_K_isHanger [.int x0] w (some (.int res.1)) res.2 :=
  Cn_of (own := 0) cy_K_isHanger rfl rfl (Nat.le_of_ble_eq_true rfl) rfl (fun X K _ hQ => Sm_le (leR_s leR_nil) (s_K_isHanger_0 K hQ _ _ h))
/-! EveningCloak.finding(I)I -/
abbrev c_K_finding : ByteArray := prog_1_method_45_code
def y_K_finding : MethodName := ⟨"EveningCloak", "finding", "(I)I"⟩
def rm_K_finding : Room := { frames := 0, cells := 0, slots := 0, locals := 0 }
theorem cy_K_finding : Cy y_K_finding c_K_finding 2 (some .int) 1 := ⟨lgm 252 (by decide +kernel) rfl, lgm 68 (by decide +kernel) rfl, by decide +kernel, by decide +kernel⟩
theorem im_K_finding : Cond.instanceMethod y_K_finding ∈ lg := lgm 251 (by decide +kernel) rfl
theorem se_K_finding : Cond.selects y_K_finding.cls y_K_finding y_K_finding ∈ lg := lgm 0 (by decide +kernel) rfl
def e_K_finding : List Ent := [
  (0, .aload_n 0, 1, 1, .null, 0, 0, 0),
  (1, .getfield 35, 3, 4, .null, 0, 6, 223),
  (4, .iload_n 1, 1, 5, .null, 0, 0, 0),
  (5, .dup2, 1, 6, .null, 0, 0, 0),
  (6, .iaload, 1, 7, .null, 0, 0, 0),
  (7, .iconst 1, 1, 8, .int 1, 0, 0, 0),
  (8, .iadd, 1, 9, .null, 0, 0, 0),
  (9, .iastore, 1, 10, .null, 0, 0, 0),
  (10, .ldc_w 257, 3, 13, .int (-1000001), 0, 0, 253),
  (13, .iload_n 1, 1, 14, .null, 0, 0, 0),
  (14, .isub, 1, 15, .null, 0, 0, 0),
  (15, .ireturn, 1, 16, .null, 0, 0, 0)]
set_option maxRecDepth 100000 in
theorem ek_K_finding : e_K_finding.all (eok 0 c_K_finding) = true := by decide +kernel
def F_K_finding_0 (t : Nat) (x1 : Int32) (w : A_W) : Option (Int32 × A_W) :=
  (gr w t 0 6).bind fun a1 =>
  (rd w a1 x1).bind fun v2 =>
  (wr w a1 x1 (v2 + 1)).bind fun w3 =>
  some (((-1000001) - x1), w3)
set_option maxHeartbeats 4000000 in
set_option maxRecDepth 100000 in
theorem s_K_finding_0 {G : Gx} {X : Cx} {res : Int32 × A_W} (K : Ok G X 0 c_K_finding 2 (some .int) rm_K_finding) (hQ : QQ G X (some (.int res.1)) res.2 0 0) (t : Nat) (x1 : Int32) (w : A_W) (h : F_K_finding_0 t x1 w = some res) : Sm G X w 0 0 [some (.ref t), some (.int x1)] [] 0 := by
  unfold F_K_finding_0 at h
  refine Sm_run K ek_K_finding 0 1 rfl ?_
  obtain ⟨a1, e_a1, h⟩ := Option.bind_eq_some_iff.mp h
  refine Sm_gr K (eo ek_K_finding (i := 1) rfl) e_a1 ?_
  refine Sm_run K ek_K_finding 2 2 rfl ?_
  obtain ⟨v2, e_v2, h⟩ := Option.bind_eq_some_iff.mp h
  refine Sm_rd K (eok_i (eo ek_K_finding (i := 4) rfl) rfl) e_v2 ?_
  refine Sm_run K ek_K_finding 5 2 rfl ?_
  obtain ⟨w3, e_w3, h⟩ := Option.bind_eq_some_iff.mp h
  refine Sm_wr K (eok_i (eo ek_K_finding (i := 7) rfl) rfl) e_w3 ?_
  refine Sm_run K ek_K_finding 8 3 rfl ?_
  obtain rfl := Option.some.inj h
  exact Sm_reti K hQ (eok_i (eo ek_K_finding (i := 11) rfl) rfl)
def F_K_finding (t : Nat) (x1 : Int32) (w : A_W) : Option (Int32 × A_W) := F_K_finding_0 t x1 w
theorem cn_K_finding {G : Gx} {t : Nat} {x1 : Int32} {w : A_W} {res : Int32 × A_W} (h : F_K_finding t x1 w = some res) : Cn G y_K_finding c_K_finding 2 (some .int) rm_K_finding [.ref t, .int x1] w (some (.int res.1)) res.2 :=
  Cn_of (own := 0) cy_K_finding rfl rfl (Nat.le_of_ble_eq_true rfl) rfl (fun X K _ hQ => Sm_le (leR_s (leR_s leR_nil)) (s_K_finding_0 K hQ _ _ _ h))
/-! EveningCloak.standOf(II)I -/
abbrev c_K_standOf : ByteArray := prog_1_method_52_code
def y_K_standOf : MethodName := ⟨"EveningCloak", "standOf", "(II)I"⟩
def rm_K_standOf : Room := { frames := 0, cells := 0, slots := 0, locals := 0 }
theorem cy_K_standOf : Cy y_K_standOf c_K_standOf 2 (some .int) 2 := ⟨lgm 256 (by decide +kernel) rfl, lgm 68 (by decide +kernel) rfl, by decide +kernel, by decide +kernel⟩
theorem st_K_standOf : Cond.static y_K_standOf ∈ lg := lgm 255 (by decide +kernel) rfl
def e_K_standOf : List Ent := [
  (0, .bipush 100, 2, 2, .int 100, 0, 0, 0),
  (2, .iload_n 0, 1, 3, .null, 0, 0, 0),
  (3, .imul, 1, 4, .null, 0, 0, 0),
  (4, .iload_n 1, 1, 5, .null, 0, 0, 0),
  (5, .iadd, 1, 6, .null, 0, 0, 0),
  (6, .ireturn, 1, 7, .null, 0, 0, 0)]
set_option maxRecDepth 100000 in
theorem ek_K_standOf : e_K_standOf.all (eok 0 c_K_standOf) = true := by decide +kernel
def F_K_standOf_0 (x0 : Int32) (x1 : Int32) (w : A_W) : Option (Int32 × A_W) :=
  some (((100 * x0) + x1), w)
set_option maxHeartbeats 4000000 in
set_option maxRecDepth 100000 in
theorem s_K_standOf_0 {G : Gx} {X : Cx} {res : Int32 × A_W} (K : Ok G X 0 c_K_standOf 2 (some .int) rm_K_standOf) (hQ : QQ G X (some (.int res.1)) res.2 0 0) (x0 : Int32) (x1 : Int32) (w : A_W) (h : F_K_standOf_0 x0 x1 w = some res) : Sm G X w 0 0 [some (.int x0), some (.int x1)] [] 0 := by
  unfold F_K_standOf_0 at h
  refine Sm_run K ek_K_standOf 0 5 rfl ?_
  obtain rfl := Option.some.inj h
  exact Sm_reti K hQ (eok_i (eo ek_K_standOf (i := 5) rfl) rfl)
def F_K_standOf (x0 : Int32) (x1 : Int32) (w : A_W) : Option (Int32 × A_W) := F_K_standOf_0 x0 x1 w
theorem cn_K_standOf {G : Gx} {x0 : Int32} {x1 : Int32} {w : A_W} {res : Int32 × A_W} (h : F_K_standOf x0 x1 w = some res) : Cn G y_K_standOf c_K_standOf 2 (some .int) rm_K_standOf [.int x0, .int x1] w (some (.int res.1)) res.2 :=
  Cn_of (own := 0) cy_K_standOf rfl rfl (Nat.le_of_ble_eq_true rfl) rfl (fun X K _ hQ => Sm_le (leR_s (leR_s leR_nil)) (s_K_standOf_0 K hQ _ _ _ h))
/-! EveningCloak.stand(III)I -/
abbrev c_K_stand : ByteArray := prog_1_method_2_code
def y_K_stand : MethodName := ⟨"EveningCloak", "stand", "(III)I"⟩
def rm_K_stand : Room := { frames := 2, cells := 0, slots := 0, locals := 42 }
theorem cy_K_stand : Cy y_K_stand c_K_stand 5 (some .int) 3 := ⟨lgm 242 (by decide +kernel) rfl, lgm 68 (by decide +kernel) rfl, by decide +kernel, by decide +kernel⟩
theorem im_K_stand : Cond.instanceMethod y_K_stand ∈ lg := lgm 240 (by decide +kernel) rfl
theorem se_K_stand : Cond.selects y_K_stand.cls y_K_stand y_K_stand ∈ lg := lgm 241 (by decide +kernel) rfl
def e_K_stand : List Ent := [
  (0, .iload_n 1, 1, 1, .null, 0, 0, 0),
  (1, .iconst 0, 1, 2, .int 0, 0, 0, 0),
  (2, .iconst 5, 1, 3, .int 5, 0, 0, 0),
  (3, .invokestatic 40, 3, 6, .null, 0, 0, 0),
  (6, .ifCond .eq 19, 3, 25, .null, 0, 0, 0),
  (9, .iload_n 2, 1, 10, .null, 0, 0, 0),
  (10, .iconst 0, 1, 11, .int 0, 0, 0, 0),
  (11, .iconst 5, 1, 12, .int 5, 0, 0, 0),
  (12, .invokestatic 40, 3, 15, .null, 0, 0, 0),
  (15, .ifCond .eq 10, 3, 25, .null, 0, 0, 0),
  (18, .iload_n 3, 1, 19, .null, 0, 0, 0),
  (19, .invokestatic 44, 3, 22, .null, 0, 0, 0),
  (22, .ifCond .ne 9, 3, 31, .null, 0, 0, 0),
  (25, .aload_n 0, 1, 26, .null, 0, 0, 0),
  (26, .iconst 0, 1, 27, .int 0, 0, 0, 0),
  (27, .invokevirtual 48, 3, 30, .null, 0, 0, 0),
  (30, .ireturn, 1, 31, .null, 0, 0, 0),
  (31, .aload_n 0, 1, 32, .null, 0, 0, 0),
  (32, .getfield 12, 3, 35, .null, 0, 0, 217),
  (35, .getfield 52, 3, 38, .null, 2, 5, 111),
  (38, .iload_n 1, 1, 39, .null, 0, 0, 0),
  (39, .iaload, 1, 40, .null, 0, 0, 0),
  (40, .istore 4, 2, 42, .null, 0, 0, 0),
  (42, .aload_n 0, 1, 43, .null, 0, 0, 0),
  (43, .getfield 12, 3, 46, .null, 0, 0, 217),
  (46, .getfield 52, 3, 49, .null, 2, 5, 111),
  (49, .iload_n 1, 1, 50, .null, 0, 0, 0),
  (50, .iload_n 2, 1, 51, .null, 0, 0, 0),
  (51, .iload_n 3, 1, 52, .null, 0, 0, 0),
  (52, .invokestatic 55, 3, 55, .null, 0, 0, 0),
  (55, .iastore, 1, 56, .null, 0, 0, 0),
  (56, .iload 4, 2, 58, .null, 0, 0, 0),
  (58, .ireturn, 1, 59, .null, 0, 0, 0)]
set_option maxRecDepth 100000 in
theorem ek_K_stand : e_K_stand.all (eok 0 c_K_stand) = true := by decide +kernel
def F_K_stand_25 (t : Nat) (w : A_W) : Option (Int32 × A_W) :=
  (ob w t 0).bind fun o2 =>
  (F_K_finding t 0 w).bind fun p1 =>
  some (p1.1, p1.2)
def F_K_stand_0 (t : Nat) (x1 : Int32) (x2 : Int32) (x3 : Int32) (w : A_W) : Option (Int32 × A_W) :=
  (F_K_within x1 0 5 w).bind fun p1 =>
  if p1.1 = 0 then
    F_K_stand_25 t p1.2
  else
    (F_K_within x2 0 5 p1.2).bind fun p3 =>
    if p3.1 = 0 then
      F_K_stand_25 t p3.2
    else
      (F_K_isHanger x3 p3.2).bind fun p5 =>
      if p5.1 = 0 then
        F_K_stand_25 t p5.2
      else
        (gr p5.2 t 0 0).bind fun a7 =>
        (gr p5.2 a7 2 5).bind fun a8 =>
        (rd p5.2 a8 x1).bind fun v9 =>
        (gr p5.2 t 0 0).bind fun a10 =>
        (gr p5.2 a10 2 5).bind fun a11 =>
        (F_K_standOf x2 x3 p5.2).bind fun p12 =>
        (wr p12.2 a11 x1 p12.1).bind fun w13 =>
        some (v9, w13)
set_option maxHeartbeats 4000000 in
set_option maxRecDepth 100000 in
theorem s_K_stand_25 {G : Gx} {X : Cx} {res : Int32 × A_W} (K : Ok G X 0 c_K_stand 5 (some .int) rm_K_stand) (hQ : QQ G X (some (.int res.1)) res.2 0 0) (t : Nat) (w : A_W) (h : F_K_stand_25 t w = some res) : Sm G X w 0 0 [some (.ref t), none, none, none, none] [] 25 := by
  unfold F_K_stand_25 at h
  refine Sm_run K ek_K_stand 13 2 rfl ?_
  obtain ⟨o2, e_o2, h⟩ := Option.bind_eq_some_iff.mp h
  obtain ⟨p1, e_p1, h⟩ := Option.bind_eq_some_iff.mp h
  refine Sm_callV K (eok_i (eo ek_K_stand (i := 15) rfl) rfl) cy_K_finding im_K_finding se_K_finding (lgm 249 (by decide +kernel) rfl) ⟨Nat.le_of_ble_eq_true rfl, Nat.le_of_ble_eq_true rfl⟩ (as := [.int 0]) (b := t) (st := []) (ob_e e_o2) (by decide) rfl rfl rfl rfl (Nat.le_of_ble_eq_true rfl) ⟨Nat.le_of_ble_eq_true rfl, Nat.le_of_ble_eq_true rfl⟩ (cn_K_finding e_p1) ?_
  refine Sm_eq (st1 := .int p1.1 :: []) (nc1 := 0) (ns1 := 0) rfl rfl rfl ?_
  obtain rfl := Option.some.inj h
  exact Sm_reti K hQ (eok_i (eo ek_K_stand (i := 16) rfl) rfl)
set_option maxHeartbeats 4000000 in
set_option maxRecDepth 100000 in
theorem s_K_stand_0 {G : Gx} {X : Cx} {res : Int32 × A_W} (K : Ok G X 0 c_K_stand 5 (some .int) rm_K_stand) (hQ : QQ G X (some (.int res.1)) res.2 0 0) (t : Nat) (x1 : Int32) (x2 : Int32) (x3 : Int32) (w : A_W) (h : F_K_stand_0 t x1 x2 x3 w = some res) : Sm G X w 0 0 [some (.ref t), some (.int x1), some (.int x2), some (.int x3), none] [] 0 := by
  unfold F_K_stand_0 at h
  refine Sm_run K ek_K_stand 0 3 rfl ?_
  obtain ⟨p1, e_p1, h⟩ := Option.bind_eq_some_iff.mp h
  refine Sm_callS K (eok_i (eo ek_K_stand (i := 3) rfl) rfl) cy_K_within st_K_within (lgm 243 (by decide +kernel) rfl) ⟨Nat.le_of_ble_eq_true rfl, Nat.le_of_ble_eq_true rfl⟩ (as := [.int x1, .int 0, .int 5]) (st := []) rfl rfl rfl (Nat.le_of_ble_eq_true rfl) ⟨Nat.le_of_ble_eq_true rfl, Nat.le_of_ble_eq_true rfl⟩ (cn_K_within e_p1) ?_
  refine Sm_eq (st1 := .int p1.1 :: []) (nc1 := 0) (ns1 := 0) rfl rfl rfl ?_
  refine Sm_if_eq K (eo ek_K_stand (i := 4) rfl) (fun c2 => ?_) (fun c2 => ?_)
  · rw [if_pos c2] at h
    exact Sm_le (leR_s (leR_n (leR_n (leR_n (leR_n leR_nil))))) (s_K_stand_25 K hQ _ _ h)
  · rw [if_neg c2] at h
    refine Sm_run K ek_K_stand 5 3 rfl ?_
    obtain ⟨p3, e_p3, h⟩ := Option.bind_eq_some_iff.mp h
    refine Sm_callS K (eok_i (eo ek_K_stand (i := 8) rfl) rfl) cy_K_within st_K_within (lgm 243 (by decide +kernel) rfl) ⟨Nat.le_of_ble_eq_true rfl, Nat.le_of_ble_eq_true rfl⟩ (as := [.int x2, .int 0, .int 5]) (st := []) rfl rfl rfl (Nat.le_of_ble_eq_true rfl) ⟨Nat.le_of_ble_eq_true rfl, Nat.le_of_ble_eq_true rfl⟩ (cn_K_within e_p3) ?_
    refine Sm_eq (st1 := .int p3.1 :: []) (nc1 := 0) (ns1 := 0) rfl rfl rfl ?_
    refine Sm_if_eq K (eo ek_K_stand (i := 9) rfl) (fun c4 => ?_) (fun c4 => ?_)
    · rw [if_pos c4] at h
      exact Sm_le (leR_s (leR_n (leR_n (leR_n (leR_n leR_nil))))) (s_K_stand_25 K hQ _ _ h)
    · rw [if_neg c4] at h
      refine Sm_run K ek_K_stand 10 1 rfl ?_
      obtain ⟨p5, e_p5, h⟩ := Option.bind_eq_some_iff.mp h
      refine Sm_callS K (eok_i (eo ek_K_stand (i := 11) rfl) rfl) cy_K_isHanger st_K_isHanger (lgm 246 (by decide +kernel) rfl) ⟨Nat.le_of_ble_eq_true rfl, Nat.le_of_ble_eq_true rfl⟩ (as := [.int x3]) (st := []) rfl rfl rfl (Nat.le_of_ble_eq_true rfl) ⟨Nat.le_of_ble_eq_true rfl, Nat.le_of_ble_eq_true rfl⟩ (cn_K_isHanger e_p5) ?_
      refine Sm_eq (st1 := .int p5.1 :: []) (nc1 := 0) (ns1 := 0) rfl rfl rfl ?_
      refine Sm_if_ne K (eo ek_K_stand (i := 12) rfl) (fun c6 => ?_) (fun c6 => ?_)
      · rw [if_neg c6] at h
        refine Sm_run K ek_K_stand 17 1 rfl ?_
        obtain ⟨a7, e_a7, h⟩ := Option.bind_eq_some_iff.mp h
        refine Sm_gr K (eo ek_K_stand (i := 18) rfl) e_a7 ?_
        obtain ⟨a8, e_a8, h⟩ := Option.bind_eq_some_iff.mp h
        refine Sm_gr K (eo ek_K_stand (i := 19) rfl) e_a8 ?_
        refine Sm_run K ek_K_stand 20 1 rfl ?_
        obtain ⟨v9, e_v9, h⟩ := Option.bind_eq_some_iff.mp h
        refine Sm_rd K (eok_i (eo ek_K_stand (i := 21) rfl) rfl) e_v9 ?_
        refine Sm_run K ek_K_stand 22 2 rfl ?_
        obtain ⟨a10, e_a10, h⟩ := Option.bind_eq_some_iff.mp h
        refine Sm_gr K (eo ek_K_stand (i := 24) rfl) e_a10 ?_
        obtain ⟨a11, e_a11, h⟩ := Option.bind_eq_some_iff.mp h
        refine Sm_gr K (eo ek_K_stand (i := 25) rfl) e_a11 ?_
        refine Sm_run K ek_K_stand 26 3 rfl ?_
        obtain ⟨p12, e_p12, h⟩ := Option.bind_eq_some_iff.mp h
        refine Sm_callS K (eok_i (eo ek_K_stand (i := 29) rfl) rfl) cy_K_standOf st_K_standOf (lgm 254 (by decide +kernel) rfl) ⟨Nat.le_of_ble_eq_true rfl, Nat.le_of_ble_eq_true rfl⟩ (as := [.int x2, .int x3]) (st := [.int x1, .ref a11]) rfl rfl rfl (Nat.le_of_ble_eq_true rfl) ⟨Nat.le_of_ble_eq_true rfl, Nat.le_of_ble_eq_true rfl⟩ (cn_K_standOf e_p12) ?_
        refine Sm_eq (st1 := .int p12.1 :: [.int x1, .ref a11]) (nc1 := 0) (ns1 := 0) rfl rfl rfl ?_
        obtain ⟨w13, e_w13, h⟩ := Option.bind_eq_some_iff.mp h
        refine Sm_wr K (eok_i (eo ek_K_stand (i := 30) rfl) rfl) e_w13 ?_
        refine Sm_run K ek_K_stand 31 1 rfl ?_
        obtain rfl := Option.some.inj h
        exact Sm_reti K hQ (eok_i (eo ek_K_stand (i := 32) rfl) rfl)
      · rw [if_pos c6] at h
        exact Sm_le (leR_s (leR_n (leR_n (leR_n (leR_n leR_nil))))) (s_K_stand_25 K hQ _ _ h)
def F_K_stand (t : Nat) (x1 : Int32) (x2 : Int32) (x3 : Int32) (w : A_W) : Option (Int32 × A_W) := F_K_stand_0 t x1 x2 x3 w
theorem cn_K_stand {G : Gx} {t : Nat} {x1 : Int32} {x2 : Int32} {x3 : Int32} {w : A_W} {res : Int32 × A_W} (h : F_K_stand t x1 x2 x3 w = some res) : Cn G y_K_stand c_K_stand 5 (some .int) rm_K_stand [.ref t, .int x1, .int x2, .int x3] w (some (.int res.1)) res.2 :=
  Cn_of (own := 0) cy_K_stand rfl rfl (Nat.le_of_ble_eq_true rfl) rfl (fun X K _ hQ => Sm_le (leR_s (leR_s (leR_s (leR_s (leR_n leR_nil))))) (s_K_stand_0 K hQ _ _ _ _ _ h))
/-! EveningCloak.listed(I)I -/
abbrev c_K_listed : ByteArray := prog_1_method_3_code
def y_K_listed : MethodName := ⟨"EveningCloak", "listed", "(I)I"⟩
def rm_K_listed : Room := { frames := 1, cells := 0, slots := 0, locals := 22 }
theorem cy_K_listed : Cy y_K_listed c_K_listed 2 (some .int) 1 := ⟨lgm 260 (by decide +kernel) rfl, lgm 68 (by decide +kernel) rfl, by decide +kernel, by decide +kernel⟩
theorem im_K_listed : Cond.instanceMethod y_K_listed ∈ lg := lgm 258 (by decide +kernel) rfl
theorem se_K_listed : Cond.selects y_K_listed.cls y_K_listed y_K_listed ∈ lg := lgm 259 (by decide +kernel) rfl
def e_K_listed : List Ent := [
  (0, .iload_n 1, 1, 1, .null, 0, 0, 0),
  (1, .iconst 0, 1, 2, .int 0, 0, 0, 0),
  (2, .iconst 5, 1, 3, .int 5, 0, 0, 0),
  (3, .invokestatic 40, 3, 6, .null, 0, 0, 0),
  (6, .ifCond .eq 15, 3, 21, .null, 0, 0, 0),
  (9, .aload_n 0, 1, 10, .null, 0, 0, 0),
  (10, .getfield 12, 3, 13, .null, 0, 0, 217),
  (13, .getfield 52, 3, 16, .null, 2, 5, 111),
  (16, .iload_n 1, 1, 17, .null, 0, 0, 0),
  (17, .iaload, 1, 18, .null, 0, 0, 0),
  (18, .goto 8, 3, 26, .null, 0, 0, 0),
  (21, .aload_n 0, 1, 22, .null, 0, 0, 0),
  (22, .iconst 0, 1, 23, .int 0, 0, 0, 0),
  (23, .invokevirtual 48, 3, 26, .null, 0, 0, 0),
  (26, .ireturn, 1, 27, .null, 0, 0, 0)]
set_option maxRecDepth 100000 in
theorem ek_K_listed : e_K_listed.all (eok 0 c_K_listed) = true := by decide +kernel
def F_K_listed_26 (y0 : Int32) (w : A_W) : Option (Int32 × A_W) :=
  some (y0, w)
def F_K_listed_0 (t : Nat) (x1 : Int32) (w : A_W) : Option (Int32 × A_W) :=
  (F_K_within x1 0 5 w).bind fun p1 =>
  if p1.1 = 0 then
    (ob p1.2 t 0).bind fun o4 =>
    (F_K_finding t 0 p1.2).bind fun p3 =>
    F_K_listed_26 p3.1 p3.2
  else
    (gr p1.2 t 0 0).bind fun a5 =>
    (gr p1.2 a5 2 5).bind fun a6 =>
    (rd p1.2 a6 x1).bind fun v7 =>
    F_K_listed_26 v7 p1.2
set_option maxHeartbeats 4000000 in
set_option maxRecDepth 100000 in
theorem s_K_listed_26 {G : Gx} {X : Cx} {res : Int32 × A_W} (K : Ok G X 0 c_K_listed 2 (some .int) rm_K_listed) (hQ : QQ G X (some (.int res.1)) res.2 0 0) (y0 : Int32) (w : A_W) (h : F_K_listed_26 y0 w = some res) : Sm G X w 0 0 [none, none] [.int y0] 26 := by
  unfold F_K_listed_26 at h
  obtain rfl := Option.some.inj h
  exact Sm_reti K hQ (eok_i (eo ek_K_listed (i := 14) rfl) rfl)
set_option maxHeartbeats 4000000 in
set_option maxRecDepth 100000 in
theorem s_K_listed_0 {G : Gx} {X : Cx} {res : Int32 × A_W} (K : Ok G X 0 c_K_listed 2 (some .int) rm_K_listed) (hQ : QQ G X (some (.int res.1)) res.2 0 0) (t : Nat) (x1 : Int32) (w : A_W) (h : F_K_listed_0 t x1 w = some res) : Sm G X w 0 0 [some (.ref t), some (.int x1)] [] 0 := by
  unfold F_K_listed_0 at h
  refine Sm_run K ek_K_listed 0 3 rfl ?_
  obtain ⟨p1, e_p1, h⟩ := Option.bind_eq_some_iff.mp h
  refine Sm_callS K (eok_i (eo ek_K_listed (i := 3) rfl) rfl) cy_K_within st_K_within (lgm 243 (by decide +kernel) rfl) ⟨Nat.le_of_ble_eq_true rfl, Nat.le_of_ble_eq_true rfl⟩ (as := [.int x1, .int 0, .int 5]) (st := []) rfl rfl rfl (Nat.le_of_ble_eq_true rfl) ⟨Nat.le_of_ble_eq_true rfl, Nat.le_of_ble_eq_true rfl⟩ (cn_K_within e_p1) ?_
  refine Sm_eq (st1 := .int p1.1 :: []) (nc1 := 0) (ns1 := 0) rfl rfl rfl ?_
  refine Sm_if_eq K (eo ek_K_listed (i := 4) rfl) (fun c2 => ?_) (fun c2 => ?_)
  · rw [if_pos c2] at h
    refine Sm_run K ek_K_listed 11 2 rfl ?_
    obtain ⟨o4, e_o4, h⟩ := Option.bind_eq_some_iff.mp h
    obtain ⟨p3, e_p3, h⟩ := Option.bind_eq_some_iff.mp h
    refine Sm_callV K (eok_i (eo ek_K_listed (i := 13) rfl) rfl) cy_K_finding im_K_finding se_K_finding (lgm 249 (by decide +kernel) rfl) ⟨Nat.le_of_ble_eq_true rfl, Nat.le_of_ble_eq_true rfl⟩ (as := [.int 0]) (b := t) (st := []) (ob_e e_o4) (by decide) rfl rfl rfl rfl (Nat.le_of_ble_eq_true rfl) ⟨Nat.le_of_ble_eq_true rfl, Nat.le_of_ble_eq_true rfl⟩ (cn_K_finding e_p3) ?_
    refine Sm_eq (st1 := .int p3.1 :: []) (nc1 := 0) (ns1 := 0) rfl rfl rfl ?_
    exact Sm_le (leR_n (leR_n leR_nil)) (s_K_listed_26 K hQ _ _ h)
  · rw [if_neg c2] at h
    refine Sm_run K ek_K_listed 5 1 rfl ?_
    obtain ⟨a5, e_a5, h⟩ := Option.bind_eq_some_iff.mp h
    refine Sm_gr K (eo ek_K_listed (i := 6) rfl) e_a5 ?_
    obtain ⟨a6, e_a6, h⟩ := Option.bind_eq_some_iff.mp h
    refine Sm_gr K (eo ek_K_listed (i := 7) rfl) e_a6 ?_
    refine Sm_run K ek_K_listed 8 1 rfl ?_
    obtain ⟨v7, e_v7, h⟩ := Option.bind_eq_some_iff.mp h
    refine Sm_rd K (eok_i (eo ek_K_listed (i := 9) rfl) rfl) e_v7 ?_
    refine Sm_run K ek_K_listed 10 1 rfl ?_
    exact Sm_le (leR_n (leR_n leR_nil)) (s_K_listed_26 K hQ _ _ h)
def F_K_listed (t : Nat) (x1 : Int32) (w : A_W) : Option (Int32 × A_W) := F_K_listed_0 t x1 w
theorem cn_K_listed {G : Gx} {t : Nat} {x1 : Int32} {w : A_W} {res : Int32 × A_W} (h : F_K_listed t x1 w = some res) : Cn G y_K_listed c_K_listed 2 (some .int) rm_K_listed [.ref t, .int x1] w (some (.int res.1)) res.2 :=
  Cn_of (own := 0) cy_K_listed rfl rfl (Nat.le_of_ble_eq_true rfl) rfl (fun X K _ hQ => Sm_le (leR_s (leR_s leR_nil)) (s_K_listed_0 K hQ _ _ _ h))
/-! EveningCloak.isKind(I)Z -/
abbrev c_K_isKind : ByteArray := prog_1_method_49_code
def y_K_isKind : MethodName := ⟨"EveningCloak", "isKind", "(I)Z"⟩
def rm_K_isKind : Room := { frames := 1, cells := 0, slots := 0, locals := 22 }
theorem cy_K_isKind : Cy y_K_isKind c_K_isKind 1 (some .boolean) 1 := ⟨lgm 267 (by decide +kernel) rfl, lgm 68 (by decide +kernel) rfl, by decide +kernel, by decide +kernel⟩
theorem st_K_isKind : Cond.static y_K_isKind ∈ lg := lgm 266 (by decide +kernel) rfl
def e_K_isKind : List Ent := [
  (0, .iload_n 0, 1, 1, .null, 0, 0, 0),
  (1, .iconst 0, 1, 2, .int 0, 0, 0, 0),
  (2, .bipush 6, 2, 4, .int 6, 0, 0, 0),
  (4, .invokestatic 40, 3, 7, .null, 0, 0, 0),
  (7, .ireturn, 1, 8, .null, 0, 0, 0)]
set_option maxRecDepth 100000 in
theorem ek_K_isKind : e_K_isKind.all (eok 0 c_K_isKind) = true := by decide +kernel
def F_K_isKind_0 (x0 : Int32) (w : A_W) : Option (Int32 × A_W) :=
  (F_K_within x0 0 6 w).bind fun p1 =>
  (bz p1.1).bind fun b2 =>
  some (b2, p1.2)
set_option maxHeartbeats 4000000 in
set_option maxRecDepth 100000 in
theorem s_K_isKind_0 {G : Gx} {X : Cx} {res : Int32 × A_W} (K : Ok G X 0 c_K_isKind 1 (some .boolean) rm_K_isKind) (hQ : QQ G X (some (.int res.1)) res.2 0 0) (x0 : Int32) (w : A_W) (h : F_K_isKind_0 x0 w = some res) : Sm G X w 0 0 [some (.int x0)] [] 0 := by
  unfold F_K_isKind_0 at h
  refine Sm_run K ek_K_isKind 0 3 rfl ?_
  obtain ⟨p1, e_p1, h⟩ := Option.bind_eq_some_iff.mp h
  refine Sm_callS K (eok_i (eo ek_K_isKind (i := 3) rfl) rfl) cy_K_within st_K_within (lgm 243 (by decide +kernel) rfl) ⟨Nat.le_of_ble_eq_true rfl, Nat.le_of_ble_eq_true rfl⟩ (as := [.int x0, .int 0, .int 6]) (st := []) rfl rfl rfl (Nat.le_of_ble_eq_true rfl) ⟨Nat.le_of_ble_eq_true rfl, Nat.le_of_ble_eq_true rfl⟩ (cn_K_within e_p1) ?_
  refine Sm_eq (st1 := .int p1.1 :: []) (nc1 := 0) (ns1 := 0) rfl rfl rfl ?_
  obtain ⟨b2, e_b2, h⟩ := Option.bind_eq_some_iff.mp h
  obtain rfl := Option.some.inj h
  exact Sm_retz K e_b2 hQ (eok_i (eo ek_K_isKind (i := 4) rfl) rfl)
def F_K_isKind (x0 : Int32) (w : A_W) : Option (Int32 × A_W) := F_K_isKind_0 x0 w
theorem cn_K_isKind {G : Gx} {x0 : Int32} {w : A_W} {res : Int32 × A_W} (h : F_K_isKind x0 w = some res) : Cn G y_K_isKind c_K_isKind 1 (some .boolean) rm_K_isKind [.int x0] w (some (.int res.1)) res.2 :=
  Cn_of (own := 0) cy_K_isKind rfl rfl (Nat.le_of_ble_eq_true rfl) rfl (fun X K _ hQ => Sm_le (leR_s leR_nil) (s_K_isKind_0 K hQ _ _ h))
/-! EveningCloak$Room.addDeposit(II)I -/
abbrev c_R_addDeposit : ByteArray := prog_3_method_5_code
def y_R_addDeposit : MethodName := ⟨"EveningCloak$Room", "addDeposit", "(II)I"⟩
def rm_R_addDeposit : Room := { frames := 0, cells := 0, slots := 0, locals := 0 }
theorem cy_R_addDeposit : Cy y_R_addDeposit c_R_addDeposit 4 (some .int) 2 := ⟨lgm 271 (by decide +kernel) rfl, lgm 69 (by decide +kernel) rfl, by decide +kernel, by decide +kernel⟩
theorem im_R_addDeposit : Cond.instanceMethod y_R_addDeposit ∈ lg := lgm 269 (by decide +kernel) rfl
theorem se_R_addDeposit : Cond.selects y_R_addDeposit.cls y_R_addDeposit y_R_addDeposit ∈ lg := lgm 270 (by decide +kernel) rfl
def e_R_addDeposit : List Ent := [
  (0, .aload_n 0, 1, 1, .null, 0, 0, 0),
  (1, .dup, 1, 2, .null, 0, 0, 0),
  (2, .getfield 61, 3, 5, .null, 2, 3, 104),
  (5, .dup_x1, 1, 6, .null, 0, 0, 0),
  (6, .iconst 1, 1, 7, .int 1, 0, 0, 0),
  (7, .iadd, 1, 8, .null, 0, 0, 0),
  (8, .putfield 61, 3, 11, .null, 2, 3, 104),
  (11, .istore_n 3, 1, 12, .null, 0, 0, 0),
  (12, .aload_n 0, 1, 13, .null, 0, 0, 0),
  (13, .getfield 19, 3, 16, .null, 2, 6, 113),
  (16, .iload_n 3, 1, 17, .null, 0, 0, 0),
  (17, .iload_n 1, 1, 18, .null, 0, 0, 0),
  (18, .iastore, 1, 19, .null, 0, 0, 0),
  (19, .aload_n 0, 1, 20, .null, 0, 0, 0),
  (20, .getfield 22, 3, 23, .null, 2, 7, 115),
  (23, .iload_n 3, 1, 24, .null, 0, 0, 0),
  (24, .iload_n 2, 1, 25, .null, 0, 0, 0),
  (25, .iastore, 1, 26, .null, 0, 0, 0),
  (26, .aload_n 0, 1, 27, .null, 0, 0, 0),
  (27, .getfield 25, 3, 30, .null, 2, 8, 117),
  (30, .iload_n 3, 1, 31, .null, 0, 0, 0),
  (31, .bipush 10, 2, 33, .int 10, 0, 0, 0),
  (33, .iload_n 3, 1, 34, .null, 0, 0, 0),
  (34, .imul, 1, 35, .null, 0, 0, 0),
  (35, .iastore, 1, 36, .null, 0, 0, 0),
  (36, .aload_n 0, 1, 37, .null, 0, 0, 0),
  (37, .getfield 28, 3, 40, .null, 2, 9, 120),
  (40, .iload_n 3, 1, 41, .null, 0, 0, 0),
  (41, .iconst 0, 1, 42, .int 0, 0, 0, 0),
  (42, .iastore, 1, 43, .null, 0, 0, 0),
  (43, .aload_n 0, 1, 44, .null, 0, 0, 0),
  (44, .getfield 31, 3, 47, .null, 2, 10, 122),
  (47, .iload_n 3, 1, 48, .null, 0, 0, 0),
  (48, .iconst 0, 1, 49, .int 0, 0, 0, 0),
  (49, .iastore, 1, 50, .null, 0, 0, 0),
  (50, .aload_n 0, 1, 51, .null, 0, 0, 0),
  (51, .getfield 34, 3, 54, .null, 2, 11, 125),
  (54, .iload_n 3, 1, 55, .null, 0, 0, 0),
  (55, .iconst 0, 1, 56, .int 0, 0, 0, 0),
  (56, .iastore, 1, 57, .null, 0, 0, 0),
  (57, .iload_n 3, 1, 58, .null, 0, 0, 0),
  (58, .ireturn, 1, 59, .null, 0, 0, 0)]
set_option maxRecDepth 100000 in
theorem ek_R_addDeposit : e_R_addDeposit.all (eok 2 c_R_addDeposit) = true := by decide +kernel
def F_R_addDeposit_0 (t : Nat) (x1 : Int32) (x2 : Int32) (w : A_W) : Option (Int32 × A_W) :=
  (gi w t 2 3).bind fun v1 =>
  (pf w t 2 3 (.int (v1 + 1))).bind fun w2 =>
  (gr w2 t 2 6).bind fun a3 =>
  (wr w2 a3 v1 x1).bind fun w4 =>
  (gr w4 t 2 7).bind fun a5 =>
  (wr w4 a5 v1 x2).bind fun w6 =>
  (gr w6 t 2 8).bind fun a7 =>
  (wr w6 a7 v1 (10 * v1)).bind fun w8 =>
  (gr w8 t 2 9).bind fun a9 =>
  (wr w8 a9 v1 0).bind fun w10 =>
  (gr w10 t 2 10).bind fun a11 =>
  (wr w10 a11 v1 0).bind fun w12 =>
  (gr w12 t 2 11).bind fun a13 =>
  (wr w12 a13 v1 0).bind fun w14 =>
  some (v1, w14)
set_option maxHeartbeats 4000000 in
set_option maxRecDepth 100000 in
theorem s_R_addDeposit_0 {G : Gx} {X : Cx} {res : Int32 × A_W} (K : Ok G X 2 c_R_addDeposit 4 (some .int) rm_R_addDeposit) (hQ : QQ G X (some (.int res.1)) res.2 0 0) (t : Nat) (x1 : Int32) (x2 : Int32) (w : A_W) (h : F_R_addDeposit_0 t x1 x2 w = some res) : Sm G X w 0 0 [some (.ref t), some (.int x1), some (.int x2), none] [] 0 := by
  unfold F_R_addDeposit_0 at h
  refine Sm_run K ek_R_addDeposit 0 2 rfl ?_
  obtain ⟨v1, e_v1, h⟩ := Option.bind_eq_some_iff.mp h
  refine Sm_gi K (eo ek_R_addDeposit (i := 2) rfl) e_v1 ?_
  refine Sm_run K ek_R_addDeposit 3 3 rfl ?_
  obtain ⟨w2, e_w2, h⟩ := Option.bind_eq_some_iff.mp h
  refine Sm_pi K (eo ek_R_addDeposit (i := 6) rfl) rfl rfl e_w2 ?_
  refine Sm_run K ek_R_addDeposit 7 2 rfl ?_
  obtain ⟨a3, e_a3, h⟩ := Option.bind_eq_some_iff.mp h
  refine Sm_gr K (eo ek_R_addDeposit (i := 9) rfl) e_a3 ?_
  refine Sm_run K ek_R_addDeposit 10 2 rfl ?_
  obtain ⟨w4, e_w4, h⟩ := Option.bind_eq_some_iff.mp h
  refine Sm_wr K (eok_i (eo ek_R_addDeposit (i := 12) rfl) rfl) e_w4 ?_
  refine Sm_run K ek_R_addDeposit 13 1 rfl ?_
  obtain ⟨a5, e_a5, h⟩ := Option.bind_eq_some_iff.mp h
  refine Sm_gr K (eo ek_R_addDeposit (i := 14) rfl) e_a5 ?_
  refine Sm_run K ek_R_addDeposit 15 2 rfl ?_
  obtain ⟨w6, e_w6, h⟩ := Option.bind_eq_some_iff.mp h
  refine Sm_wr K (eok_i (eo ek_R_addDeposit (i := 17) rfl) rfl) e_w6 ?_
  refine Sm_run K ek_R_addDeposit 18 1 rfl ?_
  obtain ⟨a7, e_a7, h⟩ := Option.bind_eq_some_iff.mp h
  refine Sm_gr K (eo ek_R_addDeposit (i := 19) rfl) e_a7 ?_
  refine Sm_run K ek_R_addDeposit 20 4 rfl ?_
  obtain ⟨w8, e_w8, h⟩ := Option.bind_eq_some_iff.mp h
  refine Sm_wr K (eok_i (eo ek_R_addDeposit (i := 24) rfl) rfl) e_w8 ?_
  refine Sm_run K ek_R_addDeposit 25 1 rfl ?_
  obtain ⟨a9, e_a9, h⟩ := Option.bind_eq_some_iff.mp h
  refine Sm_gr K (eo ek_R_addDeposit (i := 26) rfl) e_a9 ?_
  refine Sm_run K ek_R_addDeposit 27 2 rfl ?_
  obtain ⟨w10, e_w10, h⟩ := Option.bind_eq_some_iff.mp h
  refine Sm_wr K (eok_i (eo ek_R_addDeposit (i := 29) rfl) rfl) e_w10 ?_
  refine Sm_run K ek_R_addDeposit 30 1 rfl ?_
  obtain ⟨a11, e_a11, h⟩ := Option.bind_eq_some_iff.mp h
  refine Sm_gr K (eo ek_R_addDeposit (i := 31) rfl) e_a11 ?_
  refine Sm_run K ek_R_addDeposit 32 2 rfl ?_
  obtain ⟨w12, e_w12, h⟩ := Option.bind_eq_some_iff.mp h
  refine Sm_wr K (eok_i (eo ek_R_addDeposit (i := 34) rfl) rfl) e_w12 ?_
  refine Sm_run K ek_R_addDeposit 35 1 rfl ?_
  obtain ⟨a13, e_a13, h⟩ := Option.bind_eq_some_iff.mp h
  refine Sm_gr K (eo ek_R_addDeposit (i := 36) rfl) e_a13 ?_
  refine Sm_run K ek_R_addDeposit 37 2 rfl ?_
  obtain ⟨w14, e_w14, h⟩ := Option.bind_eq_some_iff.mp h
  refine Sm_wr K (eok_i (eo ek_R_addDeposit (i := 39) rfl) rfl) e_w14 ?_
  refine Sm_run K ek_R_addDeposit 40 1 rfl ?_
  obtain rfl := Option.some.inj h
  exact Sm_reti K hQ (eok_i (eo ek_R_addDeposit (i := 41) rfl) rfl)
def F_R_addDeposit (t : Nat) (x1 : Int32) (x2 : Int32) (w : A_W) : Option (Int32 × A_W) := F_R_addDeposit_0 t x1 x2 w
theorem cn_R_addDeposit {G : Gx} {t : Nat} {x1 : Int32} {x2 : Int32} {w : A_W} {res : Int32 × A_W} (h : F_R_addDeposit t x1 x2 w = some res) : Cn G y_R_addDeposit c_R_addDeposit 4 (some .int) rm_R_addDeposit [.ref t, .int x1, .int x2] w (some (.int res.1)) res.2 :=
  Cn_of (own := 2) cy_R_addDeposit rfl rfl (Nat.le_of_ble_eq_true rfl) rfl (fun X K _ hQ => Sm_le (leR_s (leR_s (leR_s (leR_n leR_nil)))) (s_R_addDeposit_0 K hQ _ _ _ _ h))
/-! EveningCloak.deposit(II)I -/
abbrev c_K_deposit : ByteArray := prog_1_method_4_code
def y_K_deposit : MethodName := ⟨"EveningCloak", "deposit", "(II)I"⟩
def rm_K_deposit : Room := { frames := 2, cells := 0, slots := 0, locals := 42 }
theorem cy_K_deposit : Cy y_K_deposit c_K_deposit 3 (some .int) 2 := ⟨lgm 264 (by decide +kernel) rfl, lgm 68 (by decide +kernel) rfl, by decide +kernel, by decide +kernel⟩
theorem im_K_deposit : Cond.instanceMethod y_K_deposit ∈ lg := lgm 262 (by decide +kernel) rfl
theorem se_K_deposit : Cond.selects y_K_deposit.cls y_K_deposit y_K_deposit ∈ lg := lgm 263 (by decide +kernel) rfl
def e_K_deposit : List Ent := [
  (0, .iload_n 1, 1, 1, .null, 0, 0, 0),
  (1, .invokestatic 59, 3, 4, .null, 0, 0, 0),
  (4, .ifCond .eq 10, 3, 14, .null, 0, 0, 0),
  (7, .iload_n 2, 1, 8, .null, 0, 0, 0),
  (8, .invokestatic 44, 3, 11, .null, 0, 0, 0),
  (11, .ifCond .ne 9, 3, 20, .null, 0, 0, 0),
  (14, .aload_n 0, 1, 15, .null, 0, 0, 0),
  (15, .iconst 0, 1, 16, .int 0, 0, 0, 0),
  (16, .invokevirtual 48, 3, 19, .null, 0, 0, 0),
  (19, .ireturn, 1, 20, .null, 0, 0, 0),
  (20, .aload_n 0, 1, 21, .null, 0, 0, 0),
  (21, .getfield 12, 3, 24, .null, 0, 0, 217),
  (24, .getfield 62, 3, 27, .null, 2, 3, 105),
  (27, .bipush 8, 2, 29, .int 8, 0, 0, 0),
  (29, .if_icmp .lt 9, 3, 38, .null, 0, 0, 0),
  (32, .aload_n 0, 1, 33, .null, 0, 0, 0),
  (33, .iconst 1, 1, 34, .int 1, 0, 0, 0),
  (34, .invokevirtual 48, 3, 37, .null, 0, 0, 0),
  (37, .ireturn, 1, 38, .null, 0, 0, 0),
  (38, .aload_n 0, 1, 39, .null, 0, 0, 0),
  (39, .getfield 12, 3, 42, .null, 0, 0, 217),
  (42, .iload_n 1, 1, 43, .null, 0, 0, 0),
  (43, .iload_n 2, 1, 44, .null, 0, 0, 0),
  (44, .invokevirtual 66, 3, 47, .null, 0, 0, 0),
  (47, .ireturn, 1, 48, .null, 0, 0, 0)]
set_option maxRecDepth 100000 in
theorem ek_K_deposit : e_K_deposit.all (eok 0 c_K_deposit) = true := by decide +kernel
def F_K_deposit_14 (t : Nat) (w : A_W) : Option (Int32 × A_W) :=
  (ob w t 0).bind fun o2 =>
  (F_K_finding t 0 w).bind fun p1 =>
  some (p1.1, p1.2)
def F_K_deposit_0 (t : Nat) (x1 : Int32) (x2 : Int32) (w : A_W) : Option (Int32 × A_W) :=
  (F_K_isKind x1 w).bind fun p1 =>
  if p1.1 = 0 then
    F_K_deposit_14 t p1.2
  else
    (F_K_isHanger x2 p1.2).bind fun p3 =>
    if p3.1 = 0 then
      F_K_deposit_14 t p3.2
    else
      (gr p3.2 t 0 0).bind fun a5 =>
      (gi p3.2 a5 2 3).bind fun v6 =>
      if v6 < 8 then
        (gr p3.2 t 0 0).bind fun a8 =>
        (ob p3.2 a8 2).bind fun o10 =>
        (F_R_addDeposit a8 x1 x2 p3.2).bind fun p9 =>
        some (p9.1, p9.2)
      else
        (ob p3.2 t 0).bind fun o12 =>
        (F_K_finding t 1 p3.2).bind fun p11 =>
        some (p11.1, p11.2)
set_option maxHeartbeats 4000000 in
set_option maxRecDepth 100000 in
theorem s_K_deposit_14 {G : Gx} {X : Cx} {res : Int32 × A_W} (K : Ok G X 0 c_K_deposit 3 (some .int) rm_K_deposit) (hQ : QQ G X (some (.int res.1)) res.2 0 0) (t : Nat) (w : A_W) (h : F_K_deposit_14 t w = some res) : Sm G X w 0 0 [some (.ref t), none, none] [] 14 := by
  unfold F_K_deposit_14 at h
  refine Sm_run K ek_K_deposit 6 2 rfl ?_
  obtain ⟨o2, e_o2, h⟩ := Option.bind_eq_some_iff.mp h
  obtain ⟨p1, e_p1, h⟩ := Option.bind_eq_some_iff.mp h
  refine Sm_callV K (eok_i (eo ek_K_deposit (i := 8) rfl) rfl) cy_K_finding im_K_finding se_K_finding (lgm 249 (by decide +kernel) rfl) ⟨Nat.le_of_ble_eq_true rfl, Nat.le_of_ble_eq_true rfl⟩ (as := [.int 0]) (b := t) (st := []) (ob_e e_o2) (by decide) rfl rfl rfl rfl (Nat.le_of_ble_eq_true rfl) ⟨Nat.le_of_ble_eq_true rfl, Nat.le_of_ble_eq_true rfl⟩ (cn_K_finding e_p1) ?_
  refine Sm_eq (st1 := .int p1.1 :: []) (nc1 := 0) (ns1 := 0) rfl rfl rfl ?_
  obtain rfl := Option.some.inj h
  exact Sm_reti K hQ (eok_i (eo ek_K_deposit (i := 9) rfl) rfl)
set_option maxHeartbeats 4000000 in
set_option maxRecDepth 100000 in
theorem s_K_deposit_0 {G : Gx} {X : Cx} {res : Int32 × A_W} (K : Ok G X 0 c_K_deposit 3 (some .int) rm_K_deposit) (hQ : QQ G X (some (.int res.1)) res.2 0 0) (t : Nat) (x1 : Int32) (x2 : Int32) (w : A_W) (h : F_K_deposit_0 t x1 x2 w = some res) : Sm G X w 0 0 [some (.ref t), some (.int x1), some (.int x2)] [] 0 := by
  unfold F_K_deposit_0 at h
  refine Sm_run K ek_K_deposit 0 1 rfl ?_
  obtain ⟨p1, e_p1, h⟩ := Option.bind_eq_some_iff.mp h
  refine Sm_callS K (eok_i (eo ek_K_deposit (i := 1) rfl) rfl) cy_K_isKind st_K_isKind (lgm 265 (by decide +kernel) rfl) ⟨Nat.le_of_ble_eq_true rfl, Nat.le_of_ble_eq_true rfl⟩ (as := [.int x1]) (st := []) rfl rfl rfl (Nat.le_of_ble_eq_true rfl) ⟨Nat.le_of_ble_eq_true rfl, Nat.le_of_ble_eq_true rfl⟩ (cn_K_isKind e_p1) ?_
  refine Sm_eq (st1 := .int p1.1 :: []) (nc1 := 0) (ns1 := 0) rfl rfl rfl ?_
  refine Sm_if_eq K (eo ek_K_deposit (i := 2) rfl) (fun c2 => ?_) (fun c2 => ?_)
  · rw [if_pos c2] at h
    exact Sm_le (leR_s (leR_n (leR_n leR_nil))) (s_K_deposit_14 K hQ _ _ h)
  · rw [if_neg c2] at h
    refine Sm_run K ek_K_deposit 3 1 rfl ?_
    obtain ⟨p3, e_p3, h⟩ := Option.bind_eq_some_iff.mp h
    refine Sm_callS K (eok_i (eo ek_K_deposit (i := 4) rfl) rfl) cy_K_isHanger st_K_isHanger (lgm 246 (by decide +kernel) rfl) ⟨Nat.le_of_ble_eq_true rfl, Nat.le_of_ble_eq_true rfl⟩ (as := [.int x2]) (st := []) rfl rfl rfl (Nat.le_of_ble_eq_true rfl) ⟨Nat.le_of_ble_eq_true rfl, Nat.le_of_ble_eq_true rfl⟩ (cn_K_isHanger e_p3) ?_
    refine Sm_eq (st1 := .int p3.1 :: []) (nc1 := 0) (ns1 := 0) rfl rfl rfl ?_
    refine Sm_if_ne K (eo ek_K_deposit (i := 5) rfl) (fun c4 => ?_) (fun c4 => ?_)
    · rw [if_neg c4] at h
      refine Sm_run K ek_K_deposit 10 1 rfl ?_
      obtain ⟨a5, e_a5, h⟩ := Option.bind_eq_some_iff.mp h
      refine Sm_gr K (eo ek_K_deposit (i := 11) rfl) e_a5 ?_
      obtain ⟨v6, e_v6, h⟩ := Option.bind_eq_some_iff.mp h
      refine Sm_gi K (eo ek_K_deposit (i := 12) rfl) e_v6 ?_
      refine Sm_run K ek_K_deposit 13 1 rfl ?_
      refine Sm_ic_lt K (eo ek_K_deposit (i := 14) rfl) (fun c7 => ?_) (fun c7 => ?_)
      · rw [if_pos c7] at h
        refine Sm_run K ek_K_deposit 19 1 rfl ?_
        obtain ⟨a8, e_a8, h⟩ := Option.bind_eq_some_iff.mp h
        refine Sm_gr K (eo ek_K_deposit (i := 20) rfl) e_a8 ?_
        refine Sm_run K ek_K_deposit 21 2 rfl ?_
        obtain ⟨o10, e_o10, h⟩ := Option.bind_eq_some_iff.mp h
        obtain ⟨p9, e_p9, h⟩ := Option.bind_eq_some_iff.mp h
        refine Sm_callV K (eok_i (eo ek_K_deposit (i := 23) rfl) rfl) cy_R_addDeposit im_R_addDeposit se_R_addDeposit (lgm 268 (by decide +kernel) rfl) ⟨Nat.le_of_ble_eq_true rfl, Nat.le_of_ble_eq_true rfl⟩ (as := [.int x1, .int x2]) (b := a8) (st := []) (ob_e e_o10) (by decide) rfl rfl rfl rfl (Nat.le_of_ble_eq_true rfl) ⟨Nat.le_of_ble_eq_true rfl, Nat.le_of_ble_eq_true rfl⟩ (cn_R_addDeposit e_p9) ?_
        refine Sm_eq (st1 := .int p9.1 :: []) (nc1 := 0) (ns1 := 0) rfl rfl rfl ?_
        obtain rfl := Option.some.inj h
        exact Sm_reti K hQ (eok_i (eo ek_K_deposit (i := 24) rfl) rfl)
      · rw [if_neg c7] at h
        refine Sm_run K ek_K_deposit 15 2 rfl ?_
        obtain ⟨o12, e_o12, h⟩ := Option.bind_eq_some_iff.mp h
        obtain ⟨p11, e_p11, h⟩ := Option.bind_eq_some_iff.mp h
        refine Sm_callV K (eok_i (eo ek_K_deposit (i := 17) rfl) rfl) cy_K_finding im_K_finding se_K_finding (lgm 249 (by decide +kernel) rfl) ⟨Nat.le_of_ble_eq_true rfl, Nat.le_of_ble_eq_true rfl⟩ (as := [.int 1]) (b := t) (st := []) (ob_e e_o12) (by decide) rfl rfl rfl rfl (Nat.le_of_ble_eq_true rfl) ⟨Nat.le_of_ble_eq_true rfl, Nat.le_of_ble_eq_true rfl⟩ (cn_K_finding e_p11) ?_
        refine Sm_eq (st1 := .int p11.1 :: []) (nc1 := 0) (ns1 := 0) rfl rfl rfl ?_
        obtain rfl := Option.some.inj h
        exact Sm_reti K hQ (eok_i (eo ek_K_deposit (i := 18) rfl) rfl)
    · rw [if_pos c4] at h
      exact Sm_le (leR_s (leR_n (leR_n leR_nil))) (s_K_deposit_14 K hQ _ _ h)
def F_K_deposit (t : Nat) (x1 : Int32) (x2 : Int32) (w : A_W) : Option (Int32 × A_W) := F_K_deposit_0 t x1 x2 w
theorem cn_K_deposit {G : Gx} {t : Nat} {x1 : Int32} {x2 : Int32} {w : A_W} {res : Int32 × A_W} (h : F_K_deposit t x1 x2 w = some res) : Cn G y_K_deposit c_K_deposit 3 (some .int) rm_K_deposit [.ref t, .int x1, .int x2] w (some (.int res.1)) res.2 :=
  Cn_of (own := 0) cy_K_deposit rfl rfl (Nat.le_of_ble_eq_true rfl) rfl (fun X K _ hQ => Sm_le (leR_s (leR_s (leR_s leR_nil))) (s_K_deposit_0 K hQ _ _ _ _ h))
/-! EveningCloak$Room.addGirl(I)I -/
abbrev c_R_addGirl : ByteArray := prog_3_method_6_code
def y_R_addGirl : MethodName := ⟨"EveningCloak$Room", "addGirl", "(I)I"⟩
def rm_R_addGirl : Room := { frames := 0, cells := 0, slots := 0, locals := 0 }
theorem cy_R_addGirl : Cy y_R_addGirl c_R_addGirl 3 (some .int) 1 := ⟨lgm 279 (by decide +kernel) rfl, lgm 69 (by decide +kernel) rfl, by decide +kernel, by decide +kernel⟩
theorem im_R_addGirl : Cond.instanceMethod y_R_addGirl ∈ lg := lgm 277 (by decide +kernel) rfl
theorem se_R_addGirl : Cond.selects y_R_addGirl.cls y_R_addGirl y_R_addGirl ∈ lg := lgm 278 (by decide +kernel) rfl
def e_R_addGirl : List Ent := [
  (0, .aload_n 0, 1, 1, .null, 0, 0, 0),
  (1, .dup, 1, 2, .null, 0, 0, 0),
  (2, .getfield 64, 3, 5, .null, 2, 4, 107),
  (5, .dup_x1, 1, 6, .null, 0, 0, 0),
  (6, .iconst 1, 1, 7, .int 1, 0, 0, 0),
  (7, .iadd, 1, 8, .null, 0, 0, 0),
  (8, .putfield 64, 3, 11, .null, 2, 4, 107),
  (11, .istore_n 2, 1, 12, .null, 0, 0, 0),
  (12, .aload_n 0, 1, 13, .null, 0, 0, 0),
  (13, .getfield 37, 3, 16, .null, 2, 12, 128),
  (16, .iload_n 2, 1, 17, .null, 0, 0, 0),
  (17, .iconst 0, 1, 18, .int 0, 0, 0, 0),
  (18, .iastore, 1, 19, .null, 0, 0, 0),
  (19, .aload_n 0, 1, 20, .null, 0, 0, 0),
  (20, .getfield 40, 3, 23, .null, 2, 13, 130),
  (23, .iload_n 2, 1, 24, .null, 0, 0, 0),
  (24, .iload_n 1, 1, 25, .null, 0, 0, 0),
  (25, .iastore, 1, 26, .null, 0, 0, 0),
  (26, .aload_n 0, 1, 27, .null, 0, 0, 0),
  (27, .getfield 43, 3, 30, .null, 2, 14, 133),
  (30, .iload_n 2, 1, 31, .null, 0, 0, 0),
  (31, .iconst 0, 1, 32, .int 0, 0, 0, 0),
  (32, .iastore, 1, 33, .null, 0, 0, 0),
  (33, .iload_n 2, 1, 34, .null, 0, 0, 0),
  (34, .ireturn, 1, 35, .null, 0, 0, 0)]
set_option maxRecDepth 100000 in
theorem ek_R_addGirl : e_R_addGirl.all (eok 2 c_R_addGirl) = true := by decide +kernel
def F_R_addGirl_0 (t : Nat) (x1 : Int32) (w : A_W) : Option (Int32 × A_W) :=
  (gi w t 2 4).bind fun v1 =>
  (pf w t 2 4 (.int (v1 + 1))).bind fun w2 =>
  (gr w2 t 2 12).bind fun a3 =>
  (wr w2 a3 v1 0).bind fun w4 =>
  (gr w4 t 2 13).bind fun a5 =>
  (wr w4 a5 v1 x1).bind fun w6 =>
  (gr w6 t 2 14).bind fun a7 =>
  (wr w6 a7 v1 0).bind fun w8 =>
  some (v1, w8)
set_option maxHeartbeats 4000000 in
set_option maxRecDepth 100000 in
theorem s_R_addGirl_0 {G : Gx} {X : Cx} {res : Int32 × A_W} (K : Ok G X 2 c_R_addGirl 3 (some .int) rm_R_addGirl) (hQ : QQ G X (some (.int res.1)) res.2 0 0) (t : Nat) (x1 : Int32) (w : A_W) (h : F_R_addGirl_0 t x1 w = some res) : Sm G X w 0 0 [some (.ref t), some (.int x1), none] [] 0 := by
  unfold F_R_addGirl_0 at h
  refine Sm_run K ek_R_addGirl 0 2 rfl ?_
  obtain ⟨v1, e_v1, h⟩ := Option.bind_eq_some_iff.mp h
  refine Sm_gi K (eo ek_R_addGirl (i := 2) rfl) e_v1 ?_
  refine Sm_run K ek_R_addGirl 3 3 rfl ?_
  obtain ⟨w2, e_w2, h⟩ := Option.bind_eq_some_iff.mp h
  refine Sm_pi K (eo ek_R_addGirl (i := 6) rfl) rfl rfl e_w2 ?_
  refine Sm_run K ek_R_addGirl 7 2 rfl ?_
  obtain ⟨a3, e_a3, h⟩ := Option.bind_eq_some_iff.mp h
  refine Sm_gr K (eo ek_R_addGirl (i := 9) rfl) e_a3 ?_
  refine Sm_run K ek_R_addGirl 10 2 rfl ?_
  obtain ⟨w4, e_w4, h⟩ := Option.bind_eq_some_iff.mp h
  refine Sm_wr K (eok_i (eo ek_R_addGirl (i := 12) rfl) rfl) e_w4 ?_
  refine Sm_run K ek_R_addGirl 13 1 rfl ?_
  obtain ⟨a5, e_a5, h⟩ := Option.bind_eq_some_iff.mp h
  refine Sm_gr K (eo ek_R_addGirl (i := 14) rfl) e_a5 ?_
  refine Sm_run K ek_R_addGirl 15 2 rfl ?_
  obtain ⟨w6, e_w6, h⟩ := Option.bind_eq_some_iff.mp h
  refine Sm_wr K (eok_i (eo ek_R_addGirl (i := 17) rfl) rfl) e_w6 ?_
  refine Sm_run K ek_R_addGirl 18 1 rfl ?_
  obtain ⟨a7, e_a7, h⟩ := Option.bind_eq_some_iff.mp h
  refine Sm_gr K (eo ek_R_addGirl (i := 19) rfl) e_a7 ?_
  refine Sm_run K ek_R_addGirl 20 2 rfl ?_
  obtain ⟨w8, e_w8, h⟩ := Option.bind_eq_some_iff.mp h
  refine Sm_wr K (eok_i (eo ek_R_addGirl (i := 22) rfl) rfl) e_w8 ?_
  refine Sm_run K ek_R_addGirl 23 1 rfl ?_
  obtain rfl := Option.some.inj h
  exact Sm_reti K hQ (eok_i (eo ek_R_addGirl (i := 24) rfl) rfl)
def F_R_addGirl (t : Nat) (x1 : Int32) (w : A_W) : Option (Int32 × A_W) := F_R_addGirl_0 t x1 w
theorem cn_R_addGirl {G : Gx} {t : Nat} {x1 : Int32} {w : A_W} {res : Int32 × A_W} (h : F_R_addGirl t x1 w = some res) : Cn G y_R_addGirl c_R_addGirl 3 (some .int) rm_R_addGirl [.ref t, .int x1] w (some (.int res.1)) res.2 :=
  Cn_of (own := 2) cy_R_addGirl rfl rfl (Nat.le_of_ble_eq_true rfl) rfl (fun X K _ hQ => Sm_le (leR_s (leR_s (leR_n leR_nil))) (s_R_addGirl_0 K hQ _ _ _ h))
/-! EveningCloak.girl(I)I -/
abbrev c_K_girl : ByteArray := prog_1_method_5_code
def y_K_girl : MethodName := ⟨"EveningCloak", "girl", "(I)I"⟩
def rm_K_girl : Room := { frames := 1, cells := 0, slots := 0, locals := 22 }
theorem cy_K_girl : Cy y_K_girl c_K_girl 2 (some .int) 1 := ⟨lgm 275 (by decide +kernel) rfl, lgm 68 (by decide +kernel) rfl, by decide +kernel, by decide +kernel⟩
theorem im_K_girl : Cond.instanceMethod y_K_girl ∈ lg := lgm 273 (by decide +kernel) rfl
theorem se_K_girl : Cond.selects y_K_girl.cls y_K_girl y_K_girl ∈ lg := lgm 274 (by decide +kernel) rfl
def e_K_girl : List Ent := [
  (0, .iload_n 1, 1, 1, .null, 0, 0, 0),
  (1, .iconst 1, 1, 2, .int 1, 0, 0, 0),
  (2, .bipush 99, 2, 4, .int 99, 0, 0, 0),
  (4, .invokestatic 40, 3, 7, .null, 0, 0, 0),
  (7, .ifCond .ne 9, 3, 16, .null, 0, 0, 0),
  (10, .aload_n 0, 1, 11, .null, 0, 0, 0),
  (11, .iconst 0, 1, 12, .int 0, 0, 0, 0),
  (12, .invokevirtual 48, 3, 15, .null, 0, 0, 0),
  (15, .ireturn, 1, 16, .null, 0, 0, 0),
  (16, .aload_n 0, 1, 17, .null, 0, 0, 0),
  (17, .getfield 12, 3, 20, .null, 0, 0, 217),
  (20, .getfield 69, 3, 23, .null, 2, 4, 108),
  (23, .bipush 6, 2, 25, .int 6, 0, 0, 0),
  (25, .if_icmp .lt 9, 3, 34, .null, 0, 0, 0),
  (28, .aload_n 0, 1, 29, .null, 0, 0, 0),
  (29, .iconst 1, 1, 30, .int 1, 0, 0, 0),
  (30, .invokevirtual 48, 3, 33, .null, 0, 0, 0),
  (33, .ireturn, 1, 34, .null, 0, 0, 0),
  (34, .aload_n 0, 1, 35, .null, 0, 0, 0),
  (35, .getfield 12, 3, 38, .null, 0, 0, 217),
  (38, .iload_n 1, 1, 39, .null, 0, 0, 0),
  (39, .invokevirtual 72, 3, 42, .null, 0, 0, 0),
  (42, .ireturn, 1, 43, .null, 0, 0, 0)]
set_option maxRecDepth 100000 in
theorem ek_K_girl : e_K_girl.all (eok 0 c_K_girl) = true := by decide +kernel
def F_K_girl_0 (t : Nat) (x1 : Int32) (w : A_W) : Option (Int32 × A_W) :=
  (F_K_within x1 1 99 w).bind fun p1 =>
  if p1.1 = 0 then
    (ob p1.2 t 0).bind fun o12 =>
    (F_K_finding t 0 p1.2).bind fun p11 =>
    some (p11.1, p11.2)
  else
    (gr p1.2 t 0 0).bind fun a3 =>
    (gi p1.2 a3 2 4).bind fun v4 =>
    if v4 < 6 then
      (gr p1.2 t 0 0).bind fun a6 =>
      (ob p1.2 a6 2).bind fun o8 =>
      (F_R_addGirl a6 x1 p1.2).bind fun p7 =>
      some (p7.1, p7.2)
    else
      (ob p1.2 t 0).bind fun o10 =>
      (F_K_finding t 1 p1.2).bind fun p9 =>
      some (p9.1, p9.2)
set_option maxHeartbeats 4000000 in
set_option maxRecDepth 100000 in
theorem s_K_girl_0 {G : Gx} {X : Cx} {res : Int32 × A_W} (K : Ok G X 0 c_K_girl 2 (some .int) rm_K_girl) (hQ : QQ G X (some (.int res.1)) res.2 0 0) (t : Nat) (x1 : Int32) (w : A_W) (h : F_K_girl_0 t x1 w = some res) : Sm G X w 0 0 [some (.ref t), some (.int x1)] [] 0 := by
  unfold F_K_girl_0 at h
  refine Sm_run K ek_K_girl 0 3 rfl ?_
  obtain ⟨p1, e_p1, h⟩ := Option.bind_eq_some_iff.mp h
  refine Sm_callS K (eok_i (eo ek_K_girl (i := 3) rfl) rfl) cy_K_within st_K_within (lgm 243 (by decide +kernel) rfl) ⟨Nat.le_of_ble_eq_true rfl, Nat.le_of_ble_eq_true rfl⟩ (as := [.int x1, .int 1, .int 99]) (st := []) rfl rfl rfl (Nat.le_of_ble_eq_true rfl) ⟨Nat.le_of_ble_eq_true rfl, Nat.le_of_ble_eq_true rfl⟩ (cn_K_within e_p1) ?_
  refine Sm_eq (st1 := .int p1.1 :: []) (nc1 := 0) (ns1 := 0) rfl rfl rfl ?_
  refine Sm_if_ne K (eo ek_K_girl (i := 4) rfl) (fun c2 => ?_) (fun c2 => ?_)
  · rw [if_neg c2] at h
    refine Sm_run K ek_K_girl 9 1 rfl ?_
    obtain ⟨a3, e_a3, h⟩ := Option.bind_eq_some_iff.mp h
    refine Sm_gr K (eo ek_K_girl (i := 10) rfl) e_a3 ?_
    obtain ⟨v4, e_v4, h⟩ := Option.bind_eq_some_iff.mp h
    refine Sm_gi K (eo ek_K_girl (i := 11) rfl) e_v4 ?_
    refine Sm_run K ek_K_girl 12 1 rfl ?_
    refine Sm_ic_lt K (eo ek_K_girl (i := 13) rfl) (fun c5 => ?_) (fun c5 => ?_)
    · rw [if_pos c5] at h
      refine Sm_run K ek_K_girl 18 1 rfl ?_
      obtain ⟨a6, e_a6, h⟩ := Option.bind_eq_some_iff.mp h
      refine Sm_gr K (eo ek_K_girl (i := 19) rfl) e_a6 ?_
      refine Sm_run K ek_K_girl 20 1 rfl ?_
      obtain ⟨o8, e_o8, h⟩ := Option.bind_eq_some_iff.mp h
      obtain ⟨p7, e_p7, h⟩ := Option.bind_eq_some_iff.mp h
      refine Sm_callV K (eok_i (eo ek_K_girl (i := 21) rfl) rfl) cy_R_addGirl im_R_addGirl se_R_addGirl (lgm 276 (by decide +kernel) rfl) ⟨Nat.le_of_ble_eq_true rfl, Nat.le_of_ble_eq_true rfl⟩ (as := [.int x1]) (b := a6) (st := []) (ob_e e_o8) (by decide) rfl rfl rfl rfl (Nat.le_of_ble_eq_true rfl) ⟨Nat.le_of_ble_eq_true rfl, Nat.le_of_ble_eq_true rfl⟩ (cn_R_addGirl e_p7) ?_
      refine Sm_eq (st1 := .int p7.1 :: []) (nc1 := 0) (ns1 := 0) rfl rfl rfl ?_
      obtain rfl := Option.some.inj h
      exact Sm_reti K hQ (eok_i (eo ek_K_girl (i := 22) rfl) rfl)
    · rw [if_neg c5] at h
      refine Sm_run K ek_K_girl 14 2 rfl ?_
      obtain ⟨o10, e_o10, h⟩ := Option.bind_eq_some_iff.mp h
      obtain ⟨p9, e_p9, h⟩ := Option.bind_eq_some_iff.mp h
      refine Sm_callV K (eok_i (eo ek_K_girl (i := 16) rfl) rfl) cy_K_finding im_K_finding se_K_finding (lgm 249 (by decide +kernel) rfl) ⟨Nat.le_of_ble_eq_true rfl, Nat.le_of_ble_eq_true rfl⟩ (as := [.int 1]) (b := t) (st := []) (ob_e e_o10) (by decide) rfl rfl rfl rfl (Nat.le_of_ble_eq_true rfl) ⟨Nat.le_of_ble_eq_true rfl, Nat.le_of_ble_eq_true rfl⟩ (cn_K_finding e_p9) ?_
      refine Sm_eq (st1 := .int p9.1 :: []) (nc1 := 0) (ns1 := 0) rfl rfl rfl ?_
      obtain rfl := Option.some.inj h
      exact Sm_reti K hQ (eok_i (eo ek_K_girl (i := 17) rfl) rfl)
  · rw [if_pos c2] at h
    refine Sm_run K ek_K_girl 5 2 rfl ?_
    obtain ⟨o12, e_o12, h⟩ := Option.bind_eq_some_iff.mp h
    obtain ⟨p11, e_p11, h⟩ := Option.bind_eq_some_iff.mp h
    refine Sm_callV K (eok_i (eo ek_K_girl (i := 7) rfl) rfl) cy_K_finding im_K_finding se_K_finding (lgm 249 (by decide +kernel) rfl) ⟨Nat.le_of_ble_eq_true rfl, Nat.le_of_ble_eq_true rfl⟩ (as := [.int 0]) (b := t) (st := []) (ob_e e_o12) (by decide) rfl rfl rfl rfl (Nat.le_of_ble_eq_true rfl) ⟨Nat.le_of_ble_eq_true rfl, Nat.le_of_ble_eq_true rfl⟩ (cn_K_finding e_p11) ?_
    refine Sm_eq (st1 := .int p11.1 :: []) (nc1 := 0) (ns1 := 0) rfl rfl rfl ?_
    obtain rfl := Option.some.inj h
    exact Sm_reti K hQ (eok_i (eo ek_K_girl (i := 8) rfl) rfl)
def F_K_girl (t : Nat) (x1 : Int32) (w : A_W) : Option (Int32 × A_W) := F_K_girl_0 t x1 w
theorem cn_K_girl {G : Gx} {t : Nat} {x1 : Int32} {w : A_W} {res : Int32 × A_W} (h : F_K_girl t x1 w = some res) : Cn G y_K_girl c_K_girl 2 (some .int) rm_K_girl [.ref t, .int x1] w (some (.int res.1)) res.2 :=
  Cn_of (own := 0) cy_K_girl rfl rfl (Nat.le_of_ble_eq_true rfl) rfl (fun X K _ hQ => Sm_le (leR_s (leR_s leR_nil)) (s_K_girl_0 K hQ _ _ _ h))
/-! EveningCloak$Room.hasDeposit(I)Z -/
abbrev c_R_hasDeposit : ByteArray := prog_3_method_3_code
def y_R_hasDeposit : MethodName := ⟨"EveningCloak$Room", "hasDeposit", "(I)Z"⟩
def rm_R_hasDeposit : Room := { frames := 1, cells := 0, slots := 0, locals := 22 }
theorem cy_R_hasDeposit : Cy y_R_hasDeposit c_R_hasDeposit 2 (some .boolean) 1 := ⟨lgm 287 (by decide +kernel) rfl, lgm 69 (by decide +kernel) rfl, by decide +kernel, by decide +kernel⟩
theorem im_R_hasDeposit : Cond.instanceMethod y_R_hasDeposit ∈ lg := lgm 285 (by decide +kernel) rfl
theorem se_R_hasDeposit : Cond.selects y_R_hasDeposit.cls y_R_hasDeposit y_R_hasDeposit ∈ lg := lgm 286 (by decide +kernel) rfl
def e_R_hasDeposit : List Ent := [
  (0, .iload_n 1, 1, 1, .null, 0, 0, 0),
  (1, .iconst 0, 1, 2, .int 0, 0, 0, 0),
  (2, .aload_n 0, 1, 3, .null, 0, 0, 0),
  (3, .getfield 61, 3, 6, .null, 2, 3, 104),
  (6, .iconst 1, 1, 7, .int 1, 0, 0, 0),
  (7, .isub, 1, 8, .null, 0, 0, 0),
  (8, .invokestatic 73, 3, 11, .null, 0, 0, 0),
  (11, .ireturn, 1, 12, .null, 0, 0, 0)]
set_option maxRecDepth 100000 in
theorem ek_R_hasDeposit : e_R_hasDeposit.all (eok 2 c_R_hasDeposit) = true := by decide +kernel
def F_R_hasDeposit_0 (t : Nat) (x1 : Int32) (w : A_W) : Option (Int32 × A_W) :=
  (gi w t 2 3).bind fun v1 =>
  (F_K_within x1 0 (v1 - 1) w).bind fun p2 =>
  (bz p2.1).bind fun b3 =>
  some (b3, p2.2)
set_option maxHeartbeats 4000000 in
set_option maxRecDepth 100000 in
theorem s_R_hasDeposit_0 {G : Gx} {X : Cx} {res : Int32 × A_W} (K : Ok G X 2 c_R_hasDeposit 2 (some .boolean) rm_R_hasDeposit) (hQ : QQ G X (some (.int res.1)) res.2 0 0) (t : Nat) (x1 : Int32) (w : A_W) (h : F_R_hasDeposit_0 t x1 w = some res) : Sm G X w 0 0 [some (.ref t), some (.int x1)] [] 0 := by
  unfold F_R_hasDeposit_0 at h
  refine Sm_run K ek_R_hasDeposit 0 3 rfl ?_
  obtain ⟨v1, e_v1, h⟩ := Option.bind_eq_some_iff.mp h
  refine Sm_gi K (eo ek_R_hasDeposit (i := 3) rfl) e_v1 ?_
  refine Sm_run K ek_R_hasDeposit 4 2 rfl ?_
  obtain ⟨p2, e_p2, h⟩ := Option.bind_eq_some_iff.mp h
  refine Sm_callSN K (host := "EveningCloak") (eok_i (eo ek_R_hasDeposit (i := 6) rfl) rfl) cy_K_within st_K_within (by decide +kernel) ⟨Nat.le_of_ble_eq_true rfl, Nat.le_of_ble_eq_true rfl⟩ (as := [.int x1, .int 0, .int (v1 - 1)]) (st := []) rfl rfl rfl (Nat.le_of_ble_eq_true rfl) ⟨Nat.le_of_ble_eq_true rfl, Nat.le_of_ble_eq_true rfl⟩ (cn_K_within e_p2) ?_
  refine Sm_eq (st1 := .int p2.1 :: []) (nc1 := 0) (ns1 := 0) rfl rfl rfl ?_
  obtain ⟨b3, e_b3, h⟩ := Option.bind_eq_some_iff.mp h
  obtain rfl := Option.some.inj h
  exact Sm_retz K e_b3 hQ (eok_i (eo ek_R_hasDeposit (i := 7) rfl) rfl)
def F_R_hasDeposit (t : Nat) (x1 : Int32) (w : A_W) : Option (Int32 × A_W) := F_R_hasDeposit_0 t x1 w
theorem cn_R_hasDeposit {G : Gx} {t : Nat} {x1 : Int32} {w : A_W} {res : Int32 × A_W} (h : F_R_hasDeposit t x1 w = some res) : Cn G y_R_hasDeposit c_R_hasDeposit 2 (some .boolean) rm_R_hasDeposit [.ref t, .int x1] w (some (.int res.1)) res.2 :=
  Cn_of (own := 2) cy_R_hasDeposit rfl rfl (Nat.le_of_ble_eq_true rfl) rfl (fun X K _ hQ => Sm_le (leR_s (leR_s leR_nil)) (s_R_hasDeposit_0 K hQ _ _ _ h))
/-! EveningCloak$Room.shineOf(I)I -/
abbrev c_R_shineOf : ByteArray := prog_3_method_12_code
def y_R_shineOf : MethodName := ⟨"EveningCloak$Room", "shineOf", "(I)I"⟩
def rm_R_shineOf : Room := { frames := 1, cells := 0, slots := 0, locals := 21 }
theorem cy_R_shineOf : Cy y_R_shineOf c_R_shineOf 4 (some .int) 1 := ⟨lgm 296 (by decide +kernel) rfl, lgm 69 (by decide +kernel) rfl, by decide +kernel, by decide +kernel⟩
theorem im_R_shineOf : Cond.instanceMethod y_R_shineOf ∈ lg := lgm 294 (by decide +kernel) rfl
theorem se_R_shineOf : Cond.selects y_R_shineOf.cls y_R_shineOf y_R_shineOf ∈ lg := lgm 295 (by decide +kernel) rfl
def e_R_shineOf : List Ent := [
  (0, .bipush 20, 2, 2, .int 20, 0, 0, 0),
  (2, .aload_n 0, 1, 3, .null, 0, 0, 0),
  (3, .getfield 28, 3, 6, .null, 2, 9, 120),
  (6, .iload_n 1, 1, 7, .null, 0, 0, 0),
  (7, .iaload, 1, 8, .null, 0, 0, 0),
  (8, .bipush 10, 2, 10, .int 10, 0, 0, 0),
  (10, .idiv, 1, 11, .null, 0, 0, 0),
  (11, .iadd, 1, 12, .null, 0, 0, 0),
  (12, .bipush 50, 2, 14, .int 50, 0, 0, 0),
  (14, .invokestatic 98, 3, 17, .null, 0, 0, 0),
  (17, .istore_n 2, 1, 18, .null, 0, 0, 0),
  (18, .iload_n 2, 1, 19, .null, 0, 0, 0),
  (19, .iconst 2, 1, 20, .int 2, 0, 0, 0),
  (20, .idiv, 1, 21, .null, 0, 0, 0),
  (21, .istore_n 3, 1, 22, .null, 0, 0, 0),
  (22, .aload_n 0, 1, 23, .null, 0, 0, 0),
  (23, .getfield 19, 3, 26, .null, 2, 6, 113),
  (26, .iload_n 1, 1, 27, .null, 0, 0, 0),
  (27, .iaload, 1, 28, .null, 0, 0, 0),
  (28, .tableswitch 55 1 6 #[40, 55, 42, 44, 55, 53], 40, 68, .null, 0, 0, 0),
  (68, .iload_n 2, 1, 69, .null, 0, 0, 0),
  (69, .ireturn, 1, 70, .null, 0, 0, 0),
  (70, .iload_n 3, 1, 71, .null, 0, 0, 0),
  (71, .ireturn, 1, 72, .null, 0, 0, 0),
  (72, .iload_n 3, 1, 73, .null, 0, 0, 0),
  (73, .aload_n 0, 1, 74, .null, 0, 0, 0),
  (74, .getfield 31, 3, 77, .null, 2, 10, 122),
  (77, .iload_n 1, 1, 78, .null, 0, 0, 0),
  (78, .iaload, 1, 79, .null, 0, 0, 0),
  (79, .iadd, 1, 80, .null, 0, 0, 0),
  (80, .ireturn, 1, 81, .null, 0, 0, 0),
  (81, .iconst 3, 1, 82, .int 3, 0, 0, 0),
  (82, .ireturn, 1, 83, .null, 0, 0, 0),
  (83, .iconst 0, 1, 84, .int 0, 0, 0, 0),
  (84, .ireturn, 1, 85, .null, 0, 0, 0)]
set_option maxRecDepth 100000 in
theorem ek_R_shineOf : e_R_shineOf.all (eok 2 c_R_shineOf) = true := by decide +kernel
def F_R_shineOf_83 (w : A_W) : Option (Int32 × A_W) :=
  some (0, w)
def F_R_shineOf_0 (t : Nat) (x1 : Int32) (w : A_W) : Option (Int32 × A_W) :=
  (gr w t 2 9).bind fun a1 =>
  (rd w a1 x1).bind fun v2 =>
  (gr w t 2 6).bind fun a3 =>
  (rd w a3 x1).bind fun v4 =>
  if v4 = 1 then
    some ((jmin (20 + (v2 / 10)) 50), w)
  else if v4 = 2 then
    F_R_shineOf_83 w
  else if v4 = 3 then
    some (((jmin (20 + (v2 / 10)) 50) / 2), w)
  else if v4 = 4 then
    (gr w t 2 10).bind fun a5 =>
    (rd w a5 x1).bind fun v6 =>
    some ((((jmin (20 + (v2 / 10)) 50) / 2) + v6), w)
  else if v4 = 5 then
    F_R_shineOf_83 w
  else if v4 = 6 then
    some (3, w)
  else
    F_R_shineOf_83 w
set_option maxHeartbeats 4000000 in
set_option maxRecDepth 100000 in
theorem s_R_shineOf_83 {G : Gx} {X : Cx} {res : Int32 × A_W} (K : Ok G X 2 c_R_shineOf 4 (some .int) rm_R_shineOf) (hQ : QQ G X (some (.int res.1)) res.2 0 0) (w : A_W) (h : F_R_shineOf_83 w = some res) : Sm G X w 0 0 [none, none, none, none] [] 83 := by
  unfold F_R_shineOf_83 at h
  refine Sm_run K ek_R_shineOf 33 1 rfl ?_
  obtain rfl := Option.some.inj h
  exact Sm_reti K hQ (eok_i (eo ek_R_shineOf (i := 34) rfl) rfl)
set_option maxHeartbeats 4000000 in
set_option maxRecDepth 100000 in
theorem s_R_shineOf_0 {G : Gx} {X : Cx} {res : Int32 × A_W} (K : Ok G X 2 c_R_shineOf 4 (some .int) rm_R_shineOf) (hQ : QQ G X (some (.int res.1)) res.2 0 0) (t : Nat) (x1 : Int32) (w : A_W) (h : F_R_shineOf_0 t x1 w = some res) : Sm G X w 0 0 [some (.ref t), some (.int x1), none, none] [] 0 := by
  unfold F_R_shineOf_0 at h
  refine Sm_run K ek_R_shineOf 0 2 rfl ?_
  obtain ⟨a1, e_a1, h⟩ := Option.bind_eq_some_iff.mp h
  refine Sm_gr K (eo ek_R_shineOf (i := 2) rfl) e_a1 ?_
  refine Sm_run K ek_R_shineOf 3 1 rfl ?_
  obtain ⟨v2, e_v2, h⟩ := Option.bind_eq_some_iff.mp h
  refine Sm_rd K (eok_i (eo ek_R_shineOf (i := 4) rfl) rfl) e_v2 ?_
  refine Sm_run K ek_R_shineOf 5 1 rfl ?_
  refine Sm_idiv K (eok_i (eo ek_R_shineOf (i := 6) rfl) rfl) (by decide) ?_
  refine Sm_run K ek_R_shineOf 7 2 rfl ?_
  refine Sm_min K (eok_i (eo ek_R_shineOf (i := 9) rfl) rfl) (lgm 297 (by decide +kernel) rfl) rfl (Nat.le_of_ble_eq_true rfl) (Nat.le_of_ble_eq_true rfl) (Nat.zero_le _) (Nat.zero_le _) ?_
  refine Sm_run K ek_R_shineOf 10 3 rfl ?_
  refine Sm_idiv K (eok_i (eo ek_R_shineOf (i := 13) rfl) rfl) (by decide) ?_
  refine Sm_run K ek_R_shineOf 14 2 rfl ?_
  obtain ⟨a3, e_a3, h⟩ := Option.bind_eq_some_iff.mp h
  refine Sm_gr K (eo ek_R_shineOf (i := 16) rfl) e_a3 ?_
  refine Sm_run K ek_R_shineOf 17 1 rfl ?_
  obtain ⟨v4, e_v4, h⟩ := Option.bind_eq_some_iff.mp h
  refine Sm_rd K (eok_i (eo ek_R_shineOf (i := 18) rfl) rfl) e_v4 ?_
  refine Sm_tsw K (eok_d (eo ek_R_shineOf (i := 19) rfl)) [68, 83, 70, 72, 83, 81] 83 (by decide) (by decide) (by decide) (fun j hj hx => ?_) (fun hx => ?_)
  · have hj : j < 6 := hj
    rcases (show j = 0 ∨ j = 1 ∨ j = 2 ∨ j = 3 ∨ j = 4 ∨ j = 5 by omega) with rfl | rfl | rfl | rfl | rfl | rfl
    · have hc : v4 = 1 := Int32.toInt_inj.mp (hx.trans (by decide))
      rw [if_pos hc] at h
      refine Sm_pc (pc1 := 68) rfl ?_
      refine Sm_run K ek_R_shineOf 20 1 rfl ?_
      obtain rfl := Option.some.inj h
      exact Sm_reti K hQ (eok_i (eo ek_R_shineOf (i := 21) rfl) rfl)
    · have hc : v4 = 2 := Int32.toInt_inj.mp (hx.trans (by decide))
      rw [if_neg (by rw [hc]; decide), if_pos hc] at h
      refine Sm_pc (pc1 := 83) rfl ?_
      exact Sm_le (leR_n (leR_n (leR_n (leR_n leR_nil)))) (s_R_shineOf_83 K hQ _ h)
    · have hc : v4 = 3 := Int32.toInt_inj.mp (hx.trans (by decide))
      rw [if_neg (by rw [hc]; decide), if_neg (by rw [hc]; decide), if_pos hc] at h
      refine Sm_pc (pc1 := 70) rfl ?_
      refine Sm_run K ek_R_shineOf 22 1 rfl ?_
      obtain rfl := Option.some.inj h
      exact Sm_reti K hQ (eok_i (eo ek_R_shineOf (i := 23) rfl) rfl)
    · have hc : v4 = 4 := Int32.toInt_inj.mp (hx.trans (by decide))
      rw [if_neg (by rw [hc]; decide), if_neg (by rw [hc]; decide), if_neg (by rw [hc]; decide), if_pos hc] at h
      refine Sm_pc (pc1 := 72) rfl ?_
      refine Sm_run K ek_R_shineOf 24 2 rfl ?_
      obtain ⟨a5, e_a5, h⟩ := Option.bind_eq_some_iff.mp h
      refine Sm_gr K (eo ek_R_shineOf (i := 26) rfl) e_a5 ?_
      refine Sm_run K ek_R_shineOf 27 1 rfl ?_
      obtain ⟨v6, e_v6, h⟩ := Option.bind_eq_some_iff.mp h
      refine Sm_rd K (eok_i (eo ek_R_shineOf (i := 28) rfl) rfl) e_v6 ?_
      refine Sm_run K ek_R_shineOf 29 1 rfl ?_
      obtain rfl := Option.some.inj h
      exact Sm_reti K hQ (eok_i (eo ek_R_shineOf (i := 30) rfl) rfl)
    · have hc : v4 = 5 := Int32.toInt_inj.mp (hx.trans (by decide))
      rw [if_neg (by rw [hc]; decide), if_neg (by rw [hc]; decide), if_neg (by rw [hc]; decide), if_neg (by rw [hc]; decide), if_pos hc] at h
      refine Sm_pc (pc1 := 83) rfl ?_
      exact Sm_le (leR_n (leR_n (leR_n (leR_n leR_nil)))) (s_R_shineOf_83 K hQ _ h)
    · have hc : v4 = 6 := Int32.toInt_inj.mp (hx.trans (by decide))
      rw [if_neg (by rw [hc]; decide), if_neg (by rw [hc]; decide), if_neg (by rw [hc]; decide), if_neg (by rw [hc]; decide), if_neg (by rw [hc]; decide), if_pos hc] at h
      refine Sm_pc (pc1 := 81) rfl ?_
      refine Sm_run K ek_R_shineOf 31 1 rfl ?_
      obtain rfl := Option.some.inj h
      exact Sm_reti K hQ (eok_i (eo ek_R_shineOf (i := 32) rfl) rfl)
  · rw [if_neg (fun hc => hx 0 (by decide) (by rw [hc]; decide)), if_neg (fun hc => hx 1 (by decide) (by rw [hc]; decide)), if_neg (fun hc => hx 2 (by decide) (by rw [hc]; decide)), if_neg (fun hc => hx 3 (by decide) (by rw [hc]; decide)), if_neg (fun hc => hx 4 (by decide) (by rw [hc]; decide)), if_neg (fun hc => hx 5 (by decide) (by rw [hc]; decide))] at h
    exact Sm_le (leR_n (leR_n (leR_n (leR_n leR_nil)))) (s_R_shineOf_83 K hQ _ h)
def F_R_shineOf (t : Nat) (x1 : Int32) (w : A_W) : Option (Int32 × A_W) := F_R_shineOf_0 t x1 w
theorem cn_R_shineOf {G : Gx} {t : Nat} {x1 : Int32} {w : A_W} {res : Int32 × A_W} (h : F_R_shineOf t x1 w = some res) : Cn G y_R_shineOf c_R_shineOf 4 (some .int) rm_R_shineOf [.ref t, .int x1] w (some (.int res.1)) res.2 :=
  Cn_of (own := 2) cy_R_shineOf rfl rfl (Nat.le_of_ble_eq_true rfl) rfl (fun X K _ hQ => Sm_le (leR_s (leR_s (leR_n (leR_n leR_nil)))) (s_R_shineOf_0 K hQ _ _ _ h))
/-! EveningCloak$Room.reachOf(I)I -/
abbrev c_R_reachOf : ByteArray := prog_3_method_13_code
def y_R_reachOf : MethodName := ⟨"EveningCloak$Room", "reachOf", "(I)I"⟩
def rm_R_reachOf : Room := { frames := 0, cells := 0, slots := 0, locals := 0 }
theorem cy_R_reachOf : Cy y_R_reachOf c_R_reachOf 2 (some .int) 1 := ⟨lgm 303 (by decide +kernel) rfl, lgm 69 (by decide +kernel) rfl, by decide +kernel, by decide +kernel⟩
theorem im_R_reachOf : Cond.instanceMethod y_R_reachOf ∈ lg := lgm 301 (by decide +kernel) rfl
theorem se_R_reachOf : Cond.selects y_R_reachOf.cls y_R_reachOf y_R_reachOf ∈ lg := lgm 302 (by decide +kernel) rfl
def e_R_reachOf : List Ent := [
  (0, .aload_n 0, 1, 1, .null, 0, 0, 0),
  (1, .getfield 19, 3, 4, .null, 2, 6, 113),
  (4, .iload_n 1, 1, 5, .null, 0, 0, 0),
  (5, .iaload, 1, 6, .null, 0, 0, 0),
  (6, .tableswitch 46 1 4 #[30, 46, 32, 34], 30, 36, .null, 0, 0, 0),
  (36, .iconst 3, 1, 37, .int 3, 0, 0, 0),
  (37, .ireturn, 1, 38, .null, 0, 0, 0),
  (38, .iconst 5, 1, 39, .int 5, 0, 0, 0),
  (39, .ireturn, 1, 40, .null, 0, 0, 0),
  (40, .iconst 5, 1, 41, .int 5, 0, 0, 0),
  (41, .aload_n 0, 1, 42, .null, 0, 0, 0),
  (42, .getfield 31, 3, 45, .null, 2, 10, 122),
  (45, .iload_n 1, 1, 46, .null, 0, 0, 0),
  (46, .iaload, 1, 47, .null, 0, 0, 0),
  (47, .bipush 20, 2, 49, .int 20, 0, 0, 0),
  (49, .idiv, 1, 50, .null, 0, 0, 0),
  (50, .iadd, 1, 51, .null, 0, 0, 0),
  (51, .ireturn, 1, 52, .null, 0, 0, 0),
  (52, .iconst 0, 1, 53, .int 0, 0, 0, 0),
  (53, .ireturn, 1, 54, .null, 0, 0, 0)]
set_option maxRecDepth 100000 in
theorem ek_R_reachOf : e_R_reachOf.all (eok 2 c_R_reachOf) = true := by decide +kernel
def F_R_reachOf_52 (w : A_W) : Option (Int32 × A_W) :=
  some (0, w)
def F_R_reachOf_0 (t : Nat) (x1 : Int32) (w : A_W) : Option (Int32 × A_W) :=
  (gr w t 2 6).bind fun a1 =>
  (rd w a1 x1).bind fun v2 =>
  if v2 = 1 then
    some (3, w)
  else if v2 = 2 then
    F_R_reachOf_52 w
  else if v2 = 3 then
    some (5, w)
  else if v2 = 4 then
    (gr w t 2 10).bind fun a3 =>
    (rd w a3 x1).bind fun v4 =>
    some ((5 + (v4 / 20)), w)
  else
    F_R_reachOf_52 w
set_option maxHeartbeats 4000000 in
set_option maxRecDepth 100000 in
theorem s_R_reachOf_52 {G : Gx} {X : Cx} {res : Int32 × A_W} (K : Ok G X 2 c_R_reachOf 2 (some .int) rm_R_reachOf) (hQ : QQ G X (some (.int res.1)) res.2 0 0) (w : A_W) (h : F_R_reachOf_52 w = some res) : Sm G X w 0 0 [none, none] [] 52 := by
  unfold F_R_reachOf_52 at h
  refine Sm_run K ek_R_reachOf 18 1 rfl ?_
  obtain rfl := Option.some.inj h
  exact Sm_reti K hQ (eok_i (eo ek_R_reachOf (i := 19) rfl) rfl)
set_option maxHeartbeats 4000000 in
set_option maxRecDepth 100000 in
theorem s_R_reachOf_0 {G : Gx} {X : Cx} {res : Int32 × A_W} (K : Ok G X 2 c_R_reachOf 2 (some .int) rm_R_reachOf) (hQ : QQ G X (some (.int res.1)) res.2 0 0) (t : Nat) (x1 : Int32) (w : A_W) (h : F_R_reachOf_0 t x1 w = some res) : Sm G X w 0 0 [some (.ref t), some (.int x1)] [] 0 := by
  unfold F_R_reachOf_0 at h
  refine Sm_run K ek_R_reachOf 0 1 rfl ?_
  obtain ⟨a1, e_a1, h⟩ := Option.bind_eq_some_iff.mp h
  refine Sm_gr K (eo ek_R_reachOf (i := 1) rfl) e_a1 ?_
  refine Sm_run K ek_R_reachOf 2 1 rfl ?_
  obtain ⟨v2, e_v2, h⟩ := Option.bind_eq_some_iff.mp h
  refine Sm_rd K (eok_i (eo ek_R_reachOf (i := 3) rfl) rfl) e_v2 ?_
  refine Sm_tsw K (eok_d (eo ek_R_reachOf (i := 4) rfl)) [36, 52, 38, 40] 52 (by decide) (by decide) (by decide) (fun j hj hx => ?_) (fun hx => ?_)
  · have hj : j < 4 := hj
    rcases (show j = 0 ∨ j = 1 ∨ j = 2 ∨ j = 3 by omega) with rfl | rfl | rfl | rfl
    · have hc : v2 = 1 := Int32.toInt_inj.mp (hx.trans (by decide))
      rw [if_pos hc] at h
      refine Sm_pc (pc1 := 36) rfl ?_
      refine Sm_run K ek_R_reachOf 5 1 rfl ?_
      obtain rfl := Option.some.inj h
      exact Sm_reti K hQ (eok_i (eo ek_R_reachOf (i := 6) rfl) rfl)
    · have hc : v2 = 2 := Int32.toInt_inj.mp (hx.trans (by decide))
      rw [if_neg (by rw [hc]; decide), if_pos hc] at h
      refine Sm_pc (pc1 := 52) rfl ?_
      exact Sm_le (leR_n (leR_n leR_nil)) (s_R_reachOf_52 K hQ _ h)
    · have hc : v2 = 3 := Int32.toInt_inj.mp (hx.trans (by decide))
      rw [if_neg (by rw [hc]; decide), if_neg (by rw [hc]; decide), if_pos hc] at h
      refine Sm_pc (pc1 := 38) rfl ?_
      refine Sm_run K ek_R_reachOf 7 1 rfl ?_
      obtain rfl := Option.some.inj h
      exact Sm_reti K hQ (eok_i (eo ek_R_reachOf (i := 8) rfl) rfl)
    · have hc : v2 = 4 := Int32.toInt_inj.mp (hx.trans (by decide))
      rw [if_neg (by rw [hc]; decide), if_neg (by rw [hc]; decide), if_neg (by rw [hc]; decide), if_pos hc] at h
      refine Sm_pc (pc1 := 40) rfl ?_
      refine Sm_run K ek_R_reachOf 9 2 rfl ?_
      obtain ⟨a3, e_a3, h⟩ := Option.bind_eq_some_iff.mp h
      refine Sm_gr K (eo ek_R_reachOf (i := 11) rfl) e_a3 ?_
      refine Sm_run K ek_R_reachOf 12 1 rfl ?_
      obtain ⟨v4, e_v4, h⟩ := Option.bind_eq_some_iff.mp h
      refine Sm_rd K (eok_i (eo ek_R_reachOf (i := 13) rfl) rfl) e_v4 ?_
      refine Sm_run K ek_R_reachOf 14 1 rfl ?_
      refine Sm_idiv K (eok_i (eo ek_R_reachOf (i := 15) rfl) rfl) (by decide) ?_
      refine Sm_run K ek_R_reachOf 16 1 rfl ?_
      obtain rfl := Option.some.inj h
      exact Sm_reti K hQ (eok_i (eo ek_R_reachOf (i := 17) rfl) rfl)
  · rw [if_neg (fun hc => hx 0 (by decide) (by rw [hc]; decide)), if_neg (fun hc => hx 1 (by decide) (by rw [hc]; decide)), if_neg (fun hc => hx 2 (by decide) (by rw [hc]; decide)), if_neg (fun hc => hx 3 (by decide) (by rw [hc]; decide))] at h
    exact Sm_le (leR_n (leR_n leR_nil)) (s_R_reachOf_52 K hQ _ h)
def F_R_reachOf (t : Nat) (x1 : Int32) (w : A_W) : Option (Int32 × A_W) := F_R_reachOf_0 t x1 w
theorem cn_R_reachOf {G : Gx} {t : Nat} {x1 : Int32} {w : A_W} {res : Int32 × A_W} (h : F_R_reachOf t x1 w = some res) : Cn G y_R_reachOf c_R_reachOf 2 (some .int) rm_R_reachOf [.ref t, .int x1] w (some (.int res.1)) res.2 :=
  Cn_of (own := 2) cy_R_reachOf rfl rfl (Nat.le_of_ble_eq_true rfl) rfl (fun X K _ hQ => Sm_le (leR_s (leR_s leR_nil)) (s_R_reachOf_0 K hQ _ _ _ h))
/-! EveningCloak$Room.lightAt(I)I -/
abbrev c_R_lightAt : ByteArray := prog_3_method_16_code
def y_R_lightAt : MethodName := ⟨"EveningCloak$Room", "lightAt", "(I)I"⟩
def rm_R_lightAt : Room := { frames := 2, cells := 0, slots := 0, locals := 44 }
theorem cy_R_lightAt : Cy y_R_lightAt c_R_lightAt 5 (some .int) 1 := ⟨lgm 311 (by decide +kernel) rfl, lgm 69 (by decide +kernel) rfl, by decide +kernel, by decide +kernel⟩
theorem im_R_lightAt : Cond.instanceMethod y_R_lightAt ∈ lg := lgm 309 (by decide +kernel) rfl
theorem se_R_lightAt : Cond.selects y_R_lightAt.cls y_R_lightAt y_R_lightAt ∈ lg := lgm 310 (by decide +kernel) rfl
def e_R_lightAt : List Ent := [
  (0, .iconst 0, 1, 1, .int 0, 0, 0, 0),
  (1, .istore_n 2, 1, 2, .null, 0, 0, 0),
  (2, .iconst 0, 1, 3, .int 0, 0, 0, 0),
  (3, .istore_n 3, 1, 4, .null, 0, 0, 0),
  (4, .iload_n 3, 1, 5, .null, 0, 0, 0),
  (5, .aload_n 0, 1, 6, .null, 0, 0, 0),
  (6, .getfield 61, 3, 9, .null, 2, 3, 104),
  (9, .if_icmp .ge 58, 3, 67, .null, 0, 0, 0),
  (12, .iload_n 1, 1, 13, .null, 0, 0, 0),
  (13, .aload_n 0, 1, 14, .null, 0, 0, 0),
  (14, .getfield 22, 3, 17, .null, 2, 7, 115),
  (17, .iload_n 3, 1, 18, .null, 0, 0, 0),
  (18, .iaload, 1, 19, .null, 0, 0, 0),
  (19, .isub, 1, 20, .null, 0, 0, 0),
  (20, .invokestatic 106, 3, 23, .null, 0, 0, 0),
  (23, .istore 4, 2, 25, .null, 0, 0, 0),
  (25, .aload_n 0, 1, 26, .null, 0, 0, 0),
  (26, .getfield 34, 3, 29, .null, 2, 11, 125),
  (29, .iload_n 3, 1, 30, .null, 0, 0, 0),
  (30, .iaload, 1, 31, .null, 0, 0, 0),
  (31, .ifCond .ne 30, 3, 61, .null, 0, 0, 0),
  (34, .iload 4, 2, 36, .null, 0, 0, 0),
  (36, .aload_n 0, 1, 37, .null, 0, 0, 0),
  (37, .iload_n 3, 1, 38, .null, 0, 0, 0),
  (38, .invokevirtual 81, 3, 41, .null, 0, 0, 0),
  (41, .if_icmp .gt 20, 3, 61, .null, 0, 0, 0),
  (44, .iload_n 2, 1, 45, .null, 0, 0, 0),
  (45, .iconst 0, 1, 46, .int 0, 0, 0, 0),
  (46, .aload_n 0, 1, 47, .null, 0, 0, 0),
  (47, .iload_n 3, 1, 48, .null, 0, 0, 0),
  (48, .invokevirtual 77, 3, 51, .null, 0, 0, 0),
  (51, .iconst 3, 1, 52, .int 3, 0, 0, 0),
  (52, .iload 4, 2, 54, .null, 0, 0, 0),
  (54, .imul, 1, 55, .null, 0, 0, 0),
  (55, .isub, 1, 56, .null, 0, 0, 0),
  (56, .invokestatic 109, 3, 59, .null, 0, 0, 0),
  (59, .iadd, 1, 60, .null, 0, 0, 0),
  (60, .istore_n 2, 1, 61, .null, 0, 0, 0),
  (61, .iinc 3 1, 3, 64, .int 1, 0, 0, 0),
  (64, .goto (-60), 3, 4, .null, 0, 0, 0),
  (67, .iload_n 2, 1, 68, .null, 0, 0, 0),
  (68, .ireturn, 1, 69, .null, 0, 0, 0)]
set_option maxRecDepth 100000 in
theorem ek_R_lightAt : e_R_lightAt.all (eok 2 c_R_lightAt) = true := by decide +kernel
def F_R_lightAt_61 (k4 : Nat → Int32 → Int32 → Int32 → A_W → Option (Int32 × A_W)) (t : Nat) (x1 : Int32) (x2 : Int32) (x3 : Int32) (w : A_W) : Option (Int32 × A_W) :=
  k4 t x1 x2 (x3 + 1) w
def F_R_lightAt_4 : Nat → Nat → Int32 → Int32 → Int32 → A_W → Option (Int32 × A_W)
  | 0, _, _, _, _, _ => none
  | n + 1, t, x1, x2, x3, w =>
    (gi w t 2 3).bind fun v1 =>
    if v1 ≤ x3 then
      some (x2, w)
    else
      (gr w t 2 7).bind fun a3 =>
      (rd w a3 x3).bind fun v4 =>
      (gr w t 2 11).bind fun a5 =>
      (rd w a5 x3).bind fun v6 =>
      if v6 = 0 then
        (ob w t 2).bind fun o9 =>
        (F_R_reachOf t x3 w).bind fun p8 =>
        if p8.1 < (jabs (x1 - v4)) then
          F_R_lightAt_61 (F_R_lightAt_4 n) t x1 x2 x3 p8.2
        else
          (ob p8.2 t 2).bind fun o12 =>
          (F_R_shineOf t x3 p8.2).bind fun p11 =>
          F_R_lightAt_61 (F_R_lightAt_4 n) t x1 (x2 + (jmax 0 (p11.1 - (3 * (jabs (x1 - v4)))))) x3 p11.2
      else
        F_R_lightAt_61 (F_R_lightAt_4 n) t x1 x2 x3 w
def F_R_lightAt_0 (t : Nat) (x1 : Int32) (w : A_W) : Option (Int32 × A_W) :=
  F_R_lightAt_4 FU t x1 0 0 w
set_option maxHeartbeats 4000000 in
set_option maxRecDepth 100000 in
theorem s_R_lightAt_61 {G : Gx} {X : Cx} {res : Int32 × A_W} (K : Ok G X 2 c_R_lightAt 5 (some .int) rm_R_lightAt) (hQ : QQ G X (some (.int res.1)) res.2 0 0) {k4 : Nat → Int32 → Int32 → Int32 → A_W → Option (Int32 × A_W)} (hk4 : ∀ (t : Nat) (x1 : Int32) (x2 : Int32) (x3 : Int32) (w : A_W), k4 t x1 x2 x3 w = some res → Sm G X w 0 0 [some (.ref t), some (.int x1), some (.int x2), some (.int x3), none] [] 4) (t : Nat) (x1 : Int32) (x2 : Int32) (x3 : Int32) (w : A_W) (h : F_R_lightAt_61 k4 t x1 x2 x3 w = some res) : Sm G X w 0 0 [some (.ref t), some (.int x1), some (.int x2), some (.int x3), none] [] 61 := by
  unfold F_R_lightAt_61 at h
  refine Sm_run K ek_R_lightAt 38 2 rfl ?_
  exact Sm_le (leR_s (leR_s (leR_s (leR_s (leR_n leR_nil))))) (hk4 _ _ _ _ _ h)
set_option maxHeartbeats 4000000 in
set_option maxRecDepth 100000 in
theorem s_R_lightAt_4 {G : Gx} {X : Cx} {res : Int32 × A_W} (K : Ok G X 2 c_R_lightAt 5 (some .int) rm_R_lightAt) (hQ : QQ G X (some (.int res.1)) res.2 0 0) : ∀ (n : Nat) (t : Nat) (x1 : Int32) (x2 : Int32) (x3 : Int32) (w : A_W), F_R_lightAt_4 n t x1 x2 x3 w = some res → Sm G X w 0 0 [some (.ref t), some (.int x1), some (.int x2), some (.int x3), none] [] 4 := by
  intro n
  induction n with
  | zero => intro t x1 x2 x3 w h; cases h
  | succ n ih =>
    intro t x1 x2 x3 w h
    rw [F_R_lightAt_4] at h
    refine Sm_run K ek_R_lightAt 4 2 rfl ?_
    obtain ⟨v1, e_v1, h⟩ := Option.bind_eq_some_iff.mp h
    refine Sm_gi K (eo ek_R_lightAt (i := 6) rfl) e_v1 ?_
    refine Sm_ic_ge K (eo ek_R_lightAt (i := 7) rfl) (fun c2 => ?_) (fun c2 => ?_)
    · rw [if_pos c2] at h
      refine Sm_run K ek_R_lightAt 40 1 rfl ?_
      obtain rfl := Option.some.inj h
      exact Sm_reti K hQ (eok_i (eo ek_R_lightAt (i := 41) rfl) rfl)
    · rw [if_neg c2] at h
      refine Sm_run K ek_R_lightAt 8 2 rfl ?_
      obtain ⟨a3, e_a3, h⟩ := Option.bind_eq_some_iff.mp h
      refine Sm_gr K (eo ek_R_lightAt (i := 10) rfl) e_a3 ?_
      refine Sm_run K ek_R_lightAt 11 1 rfl ?_
      obtain ⟨v4, e_v4, h⟩ := Option.bind_eq_some_iff.mp h
      refine Sm_rd K (eok_i (eo ek_R_lightAt (i := 12) rfl) rfl) e_v4 ?_
      refine Sm_run K ek_R_lightAt 13 1 rfl ?_
      refine Sm_abs K (eok_i (eo ek_R_lightAt (i := 14) rfl) rfl) (lgm 312 (by decide +kernel) rfl) rfl (Nat.le_of_ble_eq_true rfl) (Nat.le_of_ble_eq_true rfl) (Nat.zero_le _) (Nat.zero_le _) ?_
      refine Sm_run K ek_R_lightAt 15 2 rfl ?_
      obtain ⟨a5, e_a5, h⟩ := Option.bind_eq_some_iff.mp h
      refine Sm_gr K (eo ek_R_lightAt (i := 17) rfl) e_a5 ?_
      refine Sm_run K ek_R_lightAt 18 1 rfl ?_
      obtain ⟨v6, e_v6, h⟩ := Option.bind_eq_some_iff.mp h
      refine Sm_rd K (eok_i (eo ek_R_lightAt (i := 19) rfl) rfl) e_v6 ?_
      refine Sm_if_ne K (eo ek_R_lightAt (i := 20) rfl) (fun c7 => ?_) (fun c7 => ?_)
      · rw [if_neg c7] at h
        exact Sm_le (leR_s (leR_s (leR_s (leR_s (leR_n leR_nil))))) (s_R_lightAt_61 K hQ ih _ _ _ _ _ h)
      · rw [if_pos c7] at h
        refine Sm_run K ek_R_lightAt 21 3 rfl ?_
        obtain ⟨o9, e_o9, h⟩ := Option.bind_eq_some_iff.mp h
        obtain ⟨p8, e_p8, h⟩ := Option.bind_eq_some_iff.mp h
        refine Sm_callV K (eok_i (eo ek_R_lightAt (i := 24) rfl) rfl) cy_R_reachOf im_R_reachOf se_R_reachOf (lgm 300 (by decide +kernel) rfl) ⟨Nat.le_of_ble_eq_true rfl, Nat.le_of_ble_eq_true rfl⟩ (as := [.int x3]) (b := t) (st := [.int (jabs (x1 - v4))]) (ob_e e_o9) (by decide) rfl rfl rfl rfl (Nat.le_of_ble_eq_true rfl) ⟨Nat.le_of_ble_eq_true rfl, Nat.le_of_ble_eq_true rfl⟩ (cn_R_reachOf e_p8) ?_
        refine Sm_eq (st1 := .int p8.1 :: [.int (jabs (x1 - v4))]) (nc1 := 0) (ns1 := 0) rfl rfl rfl ?_
        refine Sm_ic_gt K (eo ek_R_lightAt (i := 25) rfl) (fun c10 => ?_) (fun c10 => ?_)
        · rw [if_pos c10] at h
          exact Sm_le (leR_s (leR_s (leR_s (leR_s (leR_n leR_nil))))) (s_R_lightAt_61 K hQ ih _ _ _ _ _ h)
        · rw [if_neg c10] at h
          refine Sm_run K ek_R_lightAt 26 4 rfl ?_
          obtain ⟨o12, e_o12, h⟩ := Option.bind_eq_some_iff.mp h
          obtain ⟨p11, e_p11, h⟩ := Option.bind_eq_some_iff.mp h
          refine Sm_callV K (eok_i (eo ek_R_lightAt (i := 30) rfl) rfl) cy_R_shineOf im_R_shineOf se_R_shineOf (lgm 293 (by decide +kernel) rfl) ⟨Nat.le_of_ble_eq_true rfl, Nat.le_of_ble_eq_true rfl⟩ (as := [.int x3]) (b := t) (st := [.int 0, .int x2]) (ob_e e_o12) (by decide) rfl rfl rfl rfl (Nat.le_of_ble_eq_true rfl) ⟨Nat.le_of_ble_eq_true rfl, Nat.le_of_ble_eq_true rfl⟩ (cn_R_shineOf e_p11) ?_
          refine Sm_eq (st1 := .int p11.1 :: [.int 0, .int x2]) (nc1 := 0) (ns1 := 0) rfl rfl rfl ?_
          refine Sm_run K ek_R_lightAt 31 4 rfl ?_
          refine Sm_max K (eok_i (eo ek_R_lightAt (i := 35) rfl) rfl) (lgm 315 (by decide +kernel) rfl) rfl (Nat.le_of_ble_eq_true rfl) (Nat.le_of_ble_eq_true rfl) (Nat.zero_le _) (Nat.zero_le _) ?_
          refine Sm_run K ek_R_lightAt 36 2 rfl ?_
          exact Sm_le (leR_s (leR_s (leR_s (leR_s (leR_n leR_nil))))) (s_R_lightAt_61 K hQ ih _ _ _ _ _ h)
set_option maxHeartbeats 4000000 in
set_option maxRecDepth 100000 in
theorem s_R_lightAt_0 {G : Gx} {X : Cx} {res : Int32 × A_W} (K : Ok G X 2 c_R_lightAt 5 (some .int) rm_R_lightAt) (hQ : QQ G X (some (.int res.1)) res.2 0 0) (t : Nat) (x1 : Int32) (w : A_W) (h : F_R_lightAt_0 t x1 w = some res) : Sm G X w 0 0 [some (.ref t), some (.int x1), none, none, none] [] 0 := by
  unfold F_R_lightAt_0 at h
  refine Sm_run K ek_R_lightAt 0 4 rfl ?_
  exact Sm_le (leR_s (leR_s (leR_s (leR_s (leR_n leR_nil))))) (s_R_lightAt_4 K hQ FU _ _ _ _ _ h)
def F_R_lightAt (t : Nat) (x1 : Int32) (w : A_W) : Option (Int32 × A_W) := F_R_lightAt_0 t x1 w
theorem cn_R_lightAt {G : Gx} {t : Nat} {x1 : Int32} {w : A_W} {res : Int32 × A_W} (h : F_R_lightAt t x1 w = some res) : Cn G y_R_lightAt c_R_lightAt 5 (some .int) rm_R_lightAt [.ref t, .int x1] w (some (.int res.1)) res.2 :=
  Cn_of (own := 2) cy_R_lightAt rfl rfl (Nat.le_of_ble_eq_true rfl) rfl (fun X K _ hQ => Sm_le (leR_s (leR_s (leR_n (leR_n (leR_n leR_nil))))) (s_R_lightAt_0 K hQ _ _ _ h))
/-! EveningCloak$Room.wearOf(I)I -/
abbrev c_R_wearOf : ByteArray := prog_3_method_14_code
def y_R_wearOf : MethodName := ⟨"EveningCloak$Room", "wearOf", "(I)I"⟩
def rm_R_wearOf : Room := { frames := 3, cells := 0, slots := 0, locals := 68 }
theorem cy_R_wearOf : Cy y_R_wearOf c_R_wearOf 3 (some .int) 1 := ⟨lgm 307 (by decide +kernel) rfl, lgm 69 (by decide +kernel) rfl, by decide +kernel, by decide +kernel⟩
theorem im_R_wearOf : Cond.instanceMethod y_R_wearOf ∈ lg := lgm 305 (by decide +kernel) rfl
theorem se_R_wearOf : Cond.selects y_R_wearOf.cls y_R_wearOf y_R_wearOf ∈ lg := lgm 306 (by decide +kernel) rfl
def e_R_wearOf : List Ent := [
  (0, .iconst 0, 1, 1, .int 0, 0, 0, 0),
  (1, .aload_n 0, 1, 2, .null, 0, 0, 0),
  (2, .getfield 55, 3, 5, .null, 2, 0, 98),
  (5, .iconst 2, 1, 6, .int 2, 0, 0, 0),
  (6, .irem, 1, 7, .null, 0, 0, 0),
  (7, .iadd, 1, 8, .null, 0, 0, 0),
  (8, .istore_n 2, 1, 9, .null, 0, 0, 0),
  (9, .aload_n 0, 1, 10, .null, 0, 0, 0),
  (10, .getfield 19, 3, 13, .null, 2, 6, 113),
  (13, .iload_n 1, 1, 14, .null, 0, 0, 0),
  (14, .iaload, 1, 15, .null, 0, 0, 0),
  (15, .tableswitch 68 0 5 #[37, 39, 68, 41, 43, 47], 37, 52, .null, 0, 0, 0),
  (52, .iconst 1, 1, 53, .int 1, 0, 0, 0),
  (53, .ireturn, 1, 54, .null, 0, 0, 0),
  (54, .iconst 0, 1, 55, .int 0, 0, 0, 0),
  (55, .ireturn, 1, 56, .null, 0, 0, 0),
  (56, .iload_n 2, 1, 57, .null, 0, 0, 0),
  (57, .ireturn, 1, 58, .null, 0, 0, 0),
  (58, .iload_n 2, 1, 59, .null, 0, 0, 0),
  (59, .iconst 1, 1, 60, .int 1, 0, 0, 0),
  (60, .iadd, 1, 61, .null, 0, 0, 0),
  (61, .ireturn, 1, 62, .null, 0, 0, 0),
  (62, .iconst 1, 1, 63, .int 1, 0, 0, 0),
  (63, .aload_n 0, 1, 64, .null, 0, 0, 0),
  (64, .aload_n 0, 1, 65, .null, 0, 0, 0),
  (65, .getfield 22, 3, 68, .null, 2, 7, 115),
  (68, .iload_n 1, 1, 69, .null, 0, 0, 0),
  (69, .iaload, 1, 70, .null, 0, 0, 0),
  (70, .invokevirtual 103, 3, 73, .null, 0, 0, 0),
  (73, .ifCond .le 7, 3, 80, .null, 0, 0, 0),
  (76, .iconst 1, 1, 77, .int 1, 0, 0, 0),
  (77, .goto 4, 3, 81, .null, 0, 0, 0),
  (80, .iconst 0, 1, 81, .int 0, 0, 0, 0),
  (81, .iadd, 1, 82, .null, 0, 0, 0),
  (82, .ireturn, 1, 83, .null, 0, 0, 0),
  (83, .iconst 0, 1, 84, .int 0, 0, 0, 0),
  (84, .ireturn, 1, 85, .null, 0, 0, 0)]
set_option maxRecDepth 100000 in
theorem ek_R_wearOf : e_R_wearOf.all (eok 2 c_R_wearOf) = true := by decide +kernel
def F_R_wearOf_81 (y0 : Int32) (y1 : Int32) (w : A_W) : Option (Int32 × A_W) :=
  some ((y0 + y1), w)
def F_R_wearOf_83 (w : A_W) : Option (Int32 × A_W) :=
  some (0, w)
def F_R_wearOf_0 (t : Nat) (x1 : Int32) (w : A_W) : Option (Int32 × A_W) :=
  (gi w t 2 0).bind fun v1 =>
  (gr w t 2 6).bind fun a2 =>
  (rd w a2 x1).bind fun v3 =>
  if v3 = 0 then
    some (1, w)
  else if v3 = 1 then
    some (0, w)
  else if v3 = 2 then
    F_R_wearOf_83 w
  else if v3 = 3 then
    some ((0 + (jrem v1 2)), w)
  else if v3 = 4 then
    some (((0 + (jrem v1 2)) + 1), w)
  else if v3 = 5 then
    (gr w t 2 7).bind fun a4 =>
    (rd w a4 x1).bind fun v5 =>
    (ob w t 2).bind fun o7 =>
    (F_R_lightAt t v5 w).bind fun p6 =>
    if p6.1 ≤ 0 then
      F_R_wearOf_81 1 0 p6.2
    else
      F_R_wearOf_81 1 1 p6.2
  else
    F_R_wearOf_83 w
set_option maxHeartbeats 4000000 in
set_option maxRecDepth 100000 in
theorem s_R_wearOf_81 {G : Gx} {X : Cx} {res : Int32 × A_W} (K : Ok G X 2 c_R_wearOf 3 (some .int) rm_R_wearOf) (hQ : QQ G X (some (.int res.1)) res.2 0 0) (y0 : Int32) (y1 : Int32) (w : A_W) (h : F_R_wearOf_81 y0 y1 w = some res) : Sm G X w 0 0 [none, none, none] [.int y1, .int y0] 81 := by
  unfold F_R_wearOf_81 at h
  refine Sm_run K ek_R_wearOf 33 1 rfl ?_
  obtain rfl := Option.some.inj h
  exact Sm_reti K hQ (eok_i (eo ek_R_wearOf (i := 34) rfl) rfl)
set_option maxHeartbeats 4000000 in
set_option maxRecDepth 100000 in
theorem s_R_wearOf_83 {G : Gx} {X : Cx} {res : Int32 × A_W} (K : Ok G X 2 c_R_wearOf 3 (some .int) rm_R_wearOf) (hQ : QQ G X (some (.int res.1)) res.2 0 0) (w : A_W) (h : F_R_wearOf_83 w = some res) : Sm G X w 0 0 [none, none, none] [] 83 := by
  unfold F_R_wearOf_83 at h
  refine Sm_run K ek_R_wearOf 35 1 rfl ?_
  obtain rfl := Option.some.inj h
  exact Sm_reti K hQ (eok_i (eo ek_R_wearOf (i := 36) rfl) rfl)
set_option maxHeartbeats 4000000 in
set_option maxRecDepth 100000 in
theorem s_R_wearOf_0 {G : Gx} {X : Cx} {res : Int32 × A_W} (K : Ok G X 2 c_R_wearOf 3 (some .int) rm_R_wearOf) (hQ : QQ G X (some (.int res.1)) res.2 0 0) (t : Nat) (x1 : Int32) (w : A_W) (h : F_R_wearOf_0 t x1 w = some res) : Sm G X w 0 0 [some (.ref t), some (.int x1), none] [] 0 := by
  unfold F_R_wearOf_0 at h
  refine Sm_run K ek_R_wearOf 0 2 rfl ?_
  obtain ⟨v1, e_v1, h⟩ := Option.bind_eq_some_iff.mp h
  refine Sm_gi K (eo ek_R_wearOf (i := 2) rfl) e_v1 ?_
  refine Sm_run K ek_R_wearOf 3 1 rfl ?_
  refine Sm_irem K (eok_i (eo ek_R_wearOf (i := 4) rfl) rfl) (by decide) ?_
  refine Sm_run K ek_R_wearOf 5 3 rfl ?_
  obtain ⟨a2, e_a2, h⟩ := Option.bind_eq_some_iff.mp h
  refine Sm_gr K (eo ek_R_wearOf (i := 8) rfl) e_a2 ?_
  refine Sm_run K ek_R_wearOf 9 1 rfl ?_
  obtain ⟨v3, e_v3, h⟩ := Option.bind_eq_some_iff.mp h
  refine Sm_rd K (eok_i (eo ek_R_wearOf (i := 10) rfl) rfl) e_v3 ?_
  refine Sm_tsw K (eok_d (eo ek_R_wearOf (i := 11) rfl)) [52, 54, 83, 56, 58, 62] 83 (by decide) (by decide) (by decide) (fun j hj hx => ?_) (fun hx => ?_)
  · have hj : j < 6 := hj
    rcases (show j = 0 ∨ j = 1 ∨ j = 2 ∨ j = 3 ∨ j = 4 ∨ j = 5 by omega) with rfl | rfl | rfl | rfl | rfl | rfl
    · have hc : v3 = 0 := Int32.toInt_inj.mp (hx.trans (by decide))
      rw [if_pos hc] at h
      refine Sm_pc (pc1 := 52) rfl ?_
      refine Sm_run K ek_R_wearOf 12 1 rfl ?_
      obtain rfl := Option.some.inj h
      exact Sm_reti K hQ (eok_i (eo ek_R_wearOf (i := 13) rfl) rfl)
    · have hc : v3 = 1 := Int32.toInt_inj.mp (hx.trans (by decide))
      rw [if_neg (by rw [hc]; decide), if_pos hc] at h
      refine Sm_pc (pc1 := 54) rfl ?_
      refine Sm_run K ek_R_wearOf 14 1 rfl ?_
      obtain rfl := Option.some.inj h
      exact Sm_reti K hQ (eok_i (eo ek_R_wearOf (i := 15) rfl) rfl)
    · have hc : v3 = 2 := Int32.toInt_inj.mp (hx.trans (by decide))
      rw [if_neg (by rw [hc]; decide), if_neg (by rw [hc]; decide), if_pos hc] at h
      refine Sm_pc (pc1 := 83) rfl ?_
      exact Sm_le (leR_n (leR_n (leR_n leR_nil))) (s_R_wearOf_83 K hQ _ h)
    · have hc : v3 = 3 := Int32.toInt_inj.mp (hx.trans (by decide))
      rw [if_neg (by rw [hc]; decide), if_neg (by rw [hc]; decide), if_neg (by rw [hc]; decide), if_pos hc] at h
      refine Sm_pc (pc1 := 56) rfl ?_
      refine Sm_run K ek_R_wearOf 16 1 rfl ?_
      obtain rfl := Option.some.inj h
      exact Sm_reti K hQ (eok_i (eo ek_R_wearOf (i := 17) rfl) rfl)
    · have hc : v3 = 4 := Int32.toInt_inj.mp (hx.trans (by decide))
      rw [if_neg (by rw [hc]; decide), if_neg (by rw [hc]; decide), if_neg (by rw [hc]; decide), if_neg (by rw [hc]; decide), if_pos hc] at h
      refine Sm_pc (pc1 := 58) rfl ?_
      refine Sm_run K ek_R_wearOf 18 3 rfl ?_
      obtain rfl := Option.some.inj h
      exact Sm_reti K hQ (eok_i (eo ek_R_wearOf (i := 21) rfl) rfl)
    · have hc : v3 = 5 := Int32.toInt_inj.mp (hx.trans (by decide))
      rw [if_neg (by rw [hc]; decide), if_neg (by rw [hc]; decide), if_neg (by rw [hc]; decide), if_neg (by rw [hc]; decide), if_neg (by rw [hc]; decide), if_pos hc] at h
      refine Sm_pc (pc1 := 62) rfl ?_
      refine Sm_run K ek_R_wearOf 22 3 rfl ?_
      obtain ⟨a4, e_a4, h⟩ := Option.bind_eq_some_iff.mp h
      refine Sm_gr K (eo ek_R_wearOf (i := 25) rfl) e_a4 ?_
      refine Sm_run K ek_R_wearOf 26 1 rfl ?_
      obtain ⟨v5, e_v5, h⟩ := Option.bind_eq_some_iff.mp h
      refine Sm_rd K (eok_i (eo ek_R_wearOf (i := 27) rfl) rfl) e_v5 ?_
      obtain ⟨o7, e_o7, h⟩ := Option.bind_eq_some_iff.mp h
      obtain ⟨p6, e_p6, h⟩ := Option.bind_eq_some_iff.mp h
      refine Sm_callV K (eok_i (eo ek_R_wearOf (i := 28) rfl) rfl) cy_R_lightAt im_R_lightAt se_R_lightAt (lgm 308 (by decide +kernel) rfl) ⟨Nat.le_of_ble_eq_true rfl, Nat.le_of_ble_eq_true rfl⟩ (as := [.int v5]) (b := t) (st := [.int 1]) (ob_e e_o7) (by decide) rfl rfl rfl rfl (Nat.le_of_ble_eq_true rfl) ⟨Nat.le_of_ble_eq_true rfl, Nat.le_of_ble_eq_true rfl⟩ (cn_R_lightAt e_p6) ?_
      refine Sm_eq (st1 := .int p6.1 :: [.int 1]) (nc1 := 0) (ns1 := 0) rfl rfl rfl ?_
      refine Sm_if_le K (eo ek_R_wearOf (i := 29) rfl) (fun c8 => ?_) (fun c8 => ?_)
      · rw [if_pos c8] at h
        refine Sm_run K ek_R_wearOf 32 1 rfl ?_
        exact Sm_le (leR_n (leR_n (leR_n leR_nil))) (s_R_wearOf_81 K hQ _ _ _ h)
      · rw [if_neg c8] at h
        refine Sm_run K ek_R_wearOf 30 2 rfl ?_
        exact Sm_le (leR_n (leR_n (leR_n leR_nil))) (s_R_wearOf_81 K hQ _ _ _ h)
  · rw [if_neg (fun hc => hx 0 (by decide) (by rw [hc]; decide)), if_neg (fun hc => hx 1 (by decide) (by rw [hc]; decide)), if_neg (fun hc => hx 2 (by decide) (by rw [hc]; decide)), if_neg (fun hc => hx 3 (by decide) (by rw [hc]; decide)), if_neg (fun hc => hx 4 (by decide) (by rw [hc]; decide)), if_neg (fun hc => hx 5 (by decide) (by rw [hc]; decide))] at h
    exact Sm_le (leR_n (leR_n (leR_n leR_nil))) (s_R_wearOf_83 K hQ _ h)
def F_R_wearOf (t : Nat) (x1 : Int32) (w : A_W) : Option (Int32 × A_W) := F_R_wearOf_0 t x1 w
theorem cn_R_wearOf {G : Gx} {t : Nat} {x1 : Int32} {w : A_W} {res : Int32 × A_W} (h : F_R_wearOf t x1 w = some res) : Cn G y_R_wearOf c_R_wearOf 3 (some .int) rm_R_wearOf [.ref t, .int x1] w (some (.int res.1)) res.2 :=
  Cn_of (own := 2) cy_R_wearOf rfl rfl (Nat.le_of_ble_eq_true rfl) rfl (fun X K _ hQ => Sm_le (leR_s (leR_s (leR_n leR_nil))) (s_R_wearOf_0 K hQ _ _ _ h))
/-! EveningCloak$Room.costOf(I)I -/
abbrev c_R_costOf : ByteArray := prog_3_method_15_code
def y_R_costOf : MethodName := ⟨"EveningCloak$Room", "costOf", "(I)I"⟩
def rm_R_costOf : Room := { frames := 0, cells := 0, slots := 0, locals := 0 }
theorem cy_R_costOf : Cy y_R_costOf c_R_costOf 2 (some .int) 1 := ⟨lgm 321 (by decide +kernel) rfl, lgm 69 (by decide +kernel) rfl, by decide +kernel, by decide +kernel⟩
theorem im_R_costOf : Cond.instanceMethod y_R_costOf ∈ lg := lgm 319 (by decide +kernel) rfl
theorem se_R_costOf : Cond.selects y_R_costOf.cls y_R_costOf y_R_costOf ∈ lg := lgm 320 (by decide +kernel) rfl
def e_R_costOf : List Ent := [
  (0, .aload_n 0, 1, 1, .null, 0, 0, 0),
  (1, .getfield 19, 3, 4, .null, 2, 6, 113),
  (4, .iload_n 1, 1, 5, .null, 0, 0, 0),
  (5, .iaload, 1, 6, .null, 0, 0, 0),
  (6, .tableswitch 50 0 6 #[42, 50, 44, 50, 50, 48, 46], 42, 48, .null, 0, 0, 0),
  (48, .iconst 2, 1, 49, .int 2, 0, 0, 0),
  (49, .ireturn, 1, 50, .null, 0, 0, 0),
  (50, .iconst 1, 1, 51, .int 1, 0, 0, 0),
  (51, .ireturn, 1, 52, .null, 0, 0, 0),
  (52, .iconst 3, 1, 53, .int 3, 0, 0, 0),
  (53, .ireturn, 1, 54, .null, 0, 0, 0),
  (54, .iconst 1, 1, 55, .int 1, 0, 0, 0),
  (55, .ireturn, 1, 56, .null, 0, 0, 0),
  (56, .iconst 0, 1, 57, .int 0, 0, 0, 0),
  (57, .ireturn, 1, 58, .null, 0, 0, 0)]
set_option maxRecDepth 100000 in
theorem ek_R_costOf : e_R_costOf.all (eok 2 c_R_costOf) = true := by decide +kernel
def F_R_costOf_56 (w : A_W) : Option (Int32 × A_W) :=
  some (0, w)
def F_R_costOf_0 (t : Nat) (x1 : Int32) (w : A_W) : Option (Int32 × A_W) :=
  (gr w t 2 6).bind fun a1 =>
  (rd w a1 x1).bind fun v2 =>
  if v2 = 0 then
    some (2, w)
  else if v2 = 1 then
    F_R_costOf_56 w
  else if v2 = 2 then
    some (1, w)
  else if v2 = 3 then
    F_R_costOf_56 w
  else if v2 = 4 then
    F_R_costOf_56 w
  else if v2 = 5 then
    some (1, w)
  else if v2 = 6 then
    some (3, w)
  else
    F_R_costOf_56 w
set_option maxHeartbeats 4000000 in
set_option maxRecDepth 100000 in
theorem s_R_costOf_56 {G : Gx} {X : Cx} {res : Int32 × A_W} (K : Ok G X 2 c_R_costOf 2 (some .int) rm_R_costOf) (hQ : QQ G X (some (.int res.1)) res.2 0 0) (w : A_W) (h : F_R_costOf_56 w = some res) : Sm G X w 0 0 [none, none] [] 56 := by
  unfold F_R_costOf_56 at h
  refine Sm_run K ek_R_costOf 13 1 rfl ?_
  obtain rfl := Option.some.inj h
  exact Sm_reti K hQ (eok_i (eo ek_R_costOf (i := 14) rfl) rfl)
set_option maxHeartbeats 4000000 in
set_option maxRecDepth 100000 in
theorem s_R_costOf_0 {G : Gx} {X : Cx} {res : Int32 × A_W} (K : Ok G X 2 c_R_costOf 2 (some .int) rm_R_costOf) (hQ : QQ G X (some (.int res.1)) res.2 0 0) (t : Nat) (x1 : Int32) (w : A_W) (h : F_R_costOf_0 t x1 w = some res) : Sm G X w 0 0 [some (.ref t), some (.int x1)] [] 0 := by
  unfold F_R_costOf_0 at h
  refine Sm_run K ek_R_costOf 0 1 rfl ?_
  obtain ⟨a1, e_a1, h⟩ := Option.bind_eq_some_iff.mp h
  refine Sm_gr K (eo ek_R_costOf (i := 1) rfl) e_a1 ?_
  refine Sm_run K ek_R_costOf 2 1 rfl ?_
  obtain ⟨v2, e_v2, h⟩ := Option.bind_eq_some_iff.mp h
  refine Sm_rd K (eok_i (eo ek_R_costOf (i := 3) rfl) rfl) e_v2 ?_
  refine Sm_tsw K (eok_d (eo ek_R_costOf (i := 4) rfl)) [48, 56, 50, 56, 56, 54, 52] 56 (by decide) (by decide) (by decide) (fun j hj hx => ?_) (fun hx => ?_)
  · have hj : j < 7 := hj
    rcases (show j = 0 ∨ j = 1 ∨ j = 2 ∨ j = 3 ∨ j = 4 ∨ j = 5 ∨ j = 6 by omega) with rfl | rfl | rfl | rfl | rfl | rfl | rfl
    · have hc : v2 = 0 := Int32.toInt_inj.mp (hx.trans (by decide))
      rw [if_pos hc] at h
      refine Sm_pc (pc1 := 48) rfl ?_
      refine Sm_run K ek_R_costOf 5 1 rfl ?_
      obtain rfl := Option.some.inj h
      exact Sm_reti K hQ (eok_i (eo ek_R_costOf (i := 6) rfl) rfl)
    · have hc : v2 = 1 := Int32.toInt_inj.mp (hx.trans (by decide))
      rw [if_neg (by rw [hc]; decide), if_pos hc] at h
      refine Sm_pc (pc1 := 56) rfl ?_
      exact Sm_le (leR_n (leR_n leR_nil)) (s_R_costOf_56 K hQ _ h)
    · have hc : v2 = 2 := Int32.toInt_inj.mp (hx.trans (by decide))
      rw [if_neg (by rw [hc]; decide), if_neg (by rw [hc]; decide), if_pos hc] at h
      refine Sm_pc (pc1 := 50) rfl ?_
      refine Sm_run K ek_R_costOf 7 1 rfl ?_
      obtain rfl := Option.some.inj h
      exact Sm_reti K hQ (eok_i (eo ek_R_costOf (i := 8) rfl) rfl)
    · have hc : v2 = 3 := Int32.toInt_inj.mp (hx.trans (by decide))
      rw [if_neg (by rw [hc]; decide), if_neg (by rw [hc]; decide), if_neg (by rw [hc]; decide), if_pos hc] at h
      refine Sm_pc (pc1 := 56) rfl ?_
      exact Sm_le (leR_n (leR_n leR_nil)) (s_R_costOf_56 K hQ _ h)
    · have hc : v2 = 4 := Int32.toInt_inj.mp (hx.trans (by decide))
      rw [if_neg (by rw [hc]; decide), if_neg (by rw [hc]; decide), if_neg (by rw [hc]; decide), if_neg (by rw [hc]; decide), if_pos hc] at h
      refine Sm_pc (pc1 := 56) rfl ?_
      exact Sm_le (leR_n (leR_n leR_nil)) (s_R_costOf_56 K hQ _ h)
    · have hc : v2 = 5 := Int32.toInt_inj.mp (hx.trans (by decide))
      rw [if_neg (by rw [hc]; decide), if_neg (by rw [hc]; decide), if_neg (by rw [hc]; decide), if_neg (by rw [hc]; decide), if_neg (by rw [hc]; decide), if_pos hc] at h
      refine Sm_pc (pc1 := 54) rfl ?_
      refine Sm_run K ek_R_costOf 11 1 rfl ?_
      obtain rfl := Option.some.inj h
      exact Sm_reti K hQ (eok_i (eo ek_R_costOf (i := 12) rfl) rfl)
    · have hc : v2 = 6 := Int32.toInt_inj.mp (hx.trans (by decide))
      rw [if_neg (by rw [hc]; decide), if_neg (by rw [hc]; decide), if_neg (by rw [hc]; decide), if_neg (by rw [hc]; decide), if_neg (by rw [hc]; decide), if_neg (by rw [hc]; decide), if_pos hc] at h
      refine Sm_pc (pc1 := 52) rfl ?_
      refine Sm_run K ek_R_costOf 9 1 rfl ?_
      obtain rfl := Option.some.inj h
      exact Sm_reti K hQ (eok_i (eo ek_R_costOf (i := 10) rfl) rfl)
  · rw [if_neg (fun hc => hx 0 (by decide) (by rw [hc]; decide)), if_neg (fun hc => hx 1 (by decide) (by rw [hc]; decide)), if_neg (fun hc => hx 2 (by decide) (by rw [hc]; decide)), if_neg (fun hc => hx 3 (by decide) (by rw [hc]; decide)), if_neg (fun hc => hx 4 (by decide) (by rw [hc]; decide)), if_neg (fun hc => hx 5 (by decide) (by rw [hc]; decide)), if_neg (fun hc => hx 6 (by decide) (by rw [hc]; decide))] at h
    exact Sm_le (leR_n (leR_n leR_nil)) (s_R_costOf_56 K hQ _ h)
def F_R_costOf (t : Nat) (x1 : Int32) (w : A_W) : Option (Int32 × A_W) := F_R_costOf_0 t x1 w
theorem cn_R_costOf {G : Gx} {t : Nat} {x1 : Int32} {w : A_W} {res : Int32 × A_W} (h : F_R_costOf t x1 w = some res) : Cn G y_R_costOf c_R_costOf 2 (some .int) rm_R_costOf [.ref t, .int x1] w (some (.int res.1)) res.2 :=
  Cn_of (own := 2) cy_R_costOf rfl rfl (Nat.le_of_ble_eq_true rfl) rfl (fun X K _ hQ => Sm_le (leR_s (leR_s leR_nil)) (s_R_costOf_0 K hQ _ _ _ h))
/-! EveningCloak$Room.depositRow(I)[I -/
abbrev c_R_depositRow : ByteArray := prog_3_method_7_code
def y_R_depositRow : MethodName := ⟨"EveningCloak$Room", "depositRow", "(I)[I"⟩
def rm_R_depositRow : Room := { frames := 0, cells := 0, slots := 0, locals := 0 }
theorem cy_R_depositRow : Cy y_R_depositRow c_R_depositRow 2 (some (.array .int)) 1 := ⟨lgm 325 (by decide +kernel) rfl, lgm 69 (by decide +kernel) rfl, by decide +kernel, by decide +kernel⟩
theorem im_R_depositRow : Cond.instanceMethod y_R_depositRow ∈ lg := lgm 323 (by decide +kernel) rfl
theorem se_R_depositRow : Cond.selects y_R_depositRow.cls y_R_depositRow y_R_depositRow ∈ lg := lgm 324 (by decide +kernel) rfl
def e_R_depositRow : List Ent := [
  (0, .iload_n 1, 1, 1, .null, 0, 0, 0),
  (1, .tableswitch 60 0 4 #[35, 40, 45, 50, 55], 35, 36, .null, 0, 0, 0),
  (36, .aload_n 0, 1, 37, .null, 0, 0, 0),
  (37, .getfield 19, 3, 40, .null, 2, 6, 113),
  (40, .areturn, 1, 41, .null, 0, 0, 0),
  (41, .aload_n 0, 1, 42, .null, 0, 0, 0),
  (42, .getfield 22, 3, 45, .null, 2, 7, 115),
  (45, .areturn, 1, 46, .null, 0, 0, 0),
  (46, .aload_n 0, 1, 47, .null, 0, 0, 0),
  (47, .getfield 25, 3, 50, .null, 2, 8, 117),
  (50, .areturn, 1, 51, .null, 0, 0, 0),
  (51, .aload_n 0, 1, 52, .null, 0, 0, 0),
  (52, .getfield 28, 3, 55, .null, 2, 9, 120),
  (55, .areturn, 1, 56, .null, 0, 0, 0),
  (56, .aload_n 0, 1, 57, .null, 0, 0, 0),
  (57, .getfield 31, 3, 60, .null, 2, 10, 122),
  (60, .areturn, 1, 61, .null, 0, 0, 0),
  (61, .aload_n 0, 1, 62, .null, 0, 0, 0),
  (62, .getfield 34, 3, 65, .null, 2, 11, 125),
  (65, .areturn, 1, 66, .null, 0, 0, 0)]
set_option maxRecDepth 100000 in
theorem ek_R_depositRow : e_R_depositRow.all (eok 2 c_R_depositRow) = true := by decide +kernel
def F_R_depositRow_0 (t : Nat) (x1 : Int32) (w : A_W) : Option (Nat × A_W) :=
  if x1 = 0 then
    (gr w t 2 6).bind fun a1 =>
    some (a1, w)
  else if x1 = 1 then
    (gr w t 2 7).bind fun a2 =>
    some (a2, w)
  else if x1 = 2 then
    (gr w t 2 8).bind fun a3 =>
    some (a3, w)
  else if x1 = 3 then
    (gr w t 2 9).bind fun a4 =>
    some (a4, w)
  else if x1 = 4 then
    (gr w t 2 10).bind fun a5 =>
    some (a5, w)
  else
    (gr w t 2 11).bind fun a6 =>
    some (a6, w)
set_option maxHeartbeats 4000000 in
set_option maxRecDepth 100000 in
theorem s_R_depositRow_0 {G : Gx} {X : Cx} {res : Nat × A_W} (K : Ok G X 2 c_R_depositRow 2 (some (.array .int)) rm_R_depositRow) (hQ : QQ G X (some (.ref res.1)) res.2 0 0) (t : Nat) (x1 : Int32) (w : A_W) (h : F_R_depositRow_0 t x1 w = some res) : Sm G X w 0 0 [some (.ref t), some (.int x1)] [] 0 := by
  unfold F_R_depositRow_0 at h
  refine Sm_run K ek_R_depositRow 0 1 rfl ?_
  refine Sm_tsw K (eok_d (eo ek_R_depositRow (i := 1) rfl)) [36, 41, 46, 51, 56] 61 (by decide) (by decide) (by decide) (fun j hj hx => ?_) (fun hx => ?_)
  · have hj : j < 5 := hj
    rcases (show j = 0 ∨ j = 1 ∨ j = 2 ∨ j = 3 ∨ j = 4 by omega) with rfl | rfl | rfl | rfl | rfl
    · have hc : x1 = 0 := Int32.toInt_inj.mp (hx.trans (by decide))
      rw [if_pos hc] at h
      refine Sm_pc (pc1 := 36) rfl ?_
      refine Sm_run K ek_R_depositRow 2 1 rfl ?_
      obtain ⟨a1, e_a1, h⟩ := Option.bind_eq_some_iff.mp h
      refine Sm_gr K (eo ek_R_depositRow (i := 3) rfl) e_a1 ?_
      obtain rfl := Option.some.inj h
      exact Sm_reta K (by first | exact Or.inl ⟨_, rfl⟩ | exact Or.inr ⟨_, rfl⟩) hQ (eok_i (eo ek_R_depositRow (i := 4) rfl) rfl)
    · have hc : x1 = 1 := Int32.toInt_inj.mp (hx.trans (by decide))
      rw [if_neg (by rw [hc]; decide), if_pos hc] at h
      refine Sm_pc (pc1 := 41) rfl ?_
      refine Sm_run K ek_R_depositRow 5 1 rfl ?_
      obtain ⟨a2, e_a2, h⟩ := Option.bind_eq_some_iff.mp h
      refine Sm_gr K (eo ek_R_depositRow (i := 6) rfl) e_a2 ?_
      obtain rfl := Option.some.inj h
      exact Sm_reta K (by first | exact Or.inl ⟨_, rfl⟩ | exact Or.inr ⟨_, rfl⟩) hQ (eok_i (eo ek_R_depositRow (i := 7) rfl) rfl)
    · have hc : x1 = 2 := Int32.toInt_inj.mp (hx.trans (by decide))
      rw [if_neg (by rw [hc]; decide), if_neg (by rw [hc]; decide), if_pos hc] at h
      refine Sm_pc (pc1 := 46) rfl ?_
      refine Sm_run K ek_R_depositRow 8 1 rfl ?_
      obtain ⟨a3, e_a3, h⟩ := Option.bind_eq_some_iff.mp h
      refine Sm_gr K (eo ek_R_depositRow (i := 9) rfl) e_a3 ?_
      obtain rfl := Option.some.inj h
      exact Sm_reta K (by first | exact Or.inl ⟨_, rfl⟩ | exact Or.inr ⟨_, rfl⟩) hQ (eok_i (eo ek_R_depositRow (i := 10) rfl) rfl)
    · have hc : x1 = 3 := Int32.toInt_inj.mp (hx.trans (by decide))
      rw [if_neg (by rw [hc]; decide), if_neg (by rw [hc]; decide), if_neg (by rw [hc]; decide), if_pos hc] at h
      refine Sm_pc (pc1 := 51) rfl ?_
      refine Sm_run K ek_R_depositRow 11 1 rfl ?_
      obtain ⟨a4, e_a4, h⟩ := Option.bind_eq_some_iff.mp h
      refine Sm_gr K (eo ek_R_depositRow (i := 12) rfl) e_a4 ?_
      obtain rfl := Option.some.inj h
      exact Sm_reta K (by first | exact Or.inl ⟨_, rfl⟩ | exact Or.inr ⟨_, rfl⟩) hQ (eok_i (eo ek_R_depositRow (i := 13) rfl) rfl)
    · have hc : x1 = 4 := Int32.toInt_inj.mp (hx.trans (by decide))
      rw [if_neg (by rw [hc]; decide), if_neg (by rw [hc]; decide), if_neg (by rw [hc]; decide), if_neg (by rw [hc]; decide), if_pos hc] at h
      refine Sm_pc (pc1 := 56) rfl ?_
      refine Sm_run K ek_R_depositRow 14 1 rfl ?_
      obtain ⟨a5, e_a5, h⟩ := Option.bind_eq_some_iff.mp h
      refine Sm_gr K (eo ek_R_depositRow (i := 15) rfl) e_a5 ?_
      obtain rfl := Option.some.inj h
      exact Sm_reta K (by first | exact Or.inl ⟨_, rfl⟩ | exact Or.inr ⟨_, rfl⟩) hQ (eok_i (eo ek_R_depositRow (i := 16) rfl) rfl)
  · rw [if_neg (fun hc => hx 0 (by decide) (by rw [hc]; decide)), if_neg (fun hc => hx 1 (by decide) (by rw [hc]; decide)), if_neg (fun hc => hx 2 (by decide) (by rw [hc]; decide)), if_neg (fun hc => hx 3 (by decide) (by rw [hc]; decide)), if_neg (fun hc => hx 4 (by decide) (by rw [hc]; decide))] at h
    refine Sm_run K ek_R_depositRow 17 1 rfl ?_
    obtain ⟨a6, e_a6, h⟩ := Option.bind_eq_some_iff.mp h
    refine Sm_gr K (eo ek_R_depositRow (i := 18) rfl) e_a6 ?_
    obtain rfl := Option.some.inj h
    exact Sm_reta K (by first | exact Or.inl ⟨_, rfl⟩ | exact Or.inr ⟨_, rfl⟩) hQ (eok_i (eo ek_R_depositRow (i := 19) rfl) rfl)
def F_R_depositRow (t : Nat) (x1 : Int32) (w : A_W) : Option (Nat × A_W) := F_R_depositRow_0 t x1 w
theorem cn_R_depositRow {G : Gx} {t : Nat} {x1 : Int32} {w : A_W} {res : Nat × A_W} (h : F_R_depositRow t x1 w = some res) : Cn G y_R_depositRow c_R_depositRow 2 (some (.array .int)) rm_R_depositRow [.ref t, .int x1] w (some (.ref res.1)) res.2 :=
  Cn_of (own := 2) cy_R_depositRow rfl rfl (Nat.le_of_ble_eq_true rfl) rfl (fun X K _ hQ => Sm_le (leR_s (leR_s leR_nil)) (s_R_depositRow_0 K hQ _ _ _ h))
/-! EveningCloak$Room.tellOf(II)I -/
abbrev c_R_tellOf : ByteArray := prog_3_method_9_code
def y_R_tellOf : MethodName := ⟨"EveningCloak$Room", "tellOf", "(II)I"⟩
def rm_R_tellOf : Room := { frames := 4, cells := 0, slots := 0, locals := 90 }
theorem cy_R_tellOf : Cy y_R_tellOf c_R_tellOf 3 (some .int) 2 := ⟨lgm 292 (by decide +kernel) rfl, lgm 69 (by decide +kernel) rfl, by decide +kernel, by decide +kernel⟩
theorem im_R_tellOf : Cond.instanceMethod y_R_tellOf ∈ lg := lgm 290 (by decide +kernel) rfl
theorem se_R_tellOf : Cond.selects y_R_tellOf.cls y_R_tellOf y_R_tellOf ∈ lg := lgm 291 (by decide +kernel) rfl
def e_R_tellOf : List Ent := [
  (0, .iload_n 2, 1, 1, .null, 0, 0, 0),
  (1, .tableswitch 55 6 9 #[31, 37, 43, 49], 31, 32, .null, 0, 0, 0),
  (32, .aload_n 0, 1, 33, .null, 0, 0, 0),
  (33, .iload_n 1, 1, 34, .null, 0, 0, 0),
  (34, .invokevirtual 77, 3, 37, .null, 0, 0, 0),
  (37, .ireturn, 1, 38, .null, 0, 0, 0),
  (38, .aload_n 0, 1, 39, .null, 0, 0, 0),
  (39, .iload_n 1, 1, 40, .null, 0, 0, 0),
  (40, .invokevirtual 81, 3, 43, .null, 0, 0, 0),
  (43, .ireturn, 1, 44, .null, 0, 0, 0),
  (44, .aload_n 0, 1, 45, .null, 0, 0, 0),
  (45, .iload_n 1, 1, 46, .null, 0, 0, 0),
  (46, .invokevirtual 84, 3, 49, .null, 0, 0, 0),
  (49, .ireturn, 1, 50, .null, 0, 0, 0),
  (50, .aload_n 0, 1, 51, .null, 0, 0, 0),
  (51, .iload_n 1, 1, 52, .null, 0, 0, 0),
  (52, .invokevirtual 87, 3, 55, .null, 0, 0, 0),
  (55, .ireturn, 1, 56, .null, 0, 0, 0),
  (56, .aload_n 0, 1, 57, .null, 0, 0, 0),
  (57, .iload_n 2, 1, 58, .null, 0, 0, 0),
  (58, .invokevirtual 90, 3, 61, .null, 0, 0, 0),
  (61, .iload_n 1, 1, 62, .null, 0, 0, 0),
  (62, .iaload, 1, 63, .null, 0, 0, 0),
  (63, .ireturn, 1, 64, .null, 0, 0, 0)]
set_option maxRecDepth 100000 in
theorem ek_R_tellOf : e_R_tellOf.all (eok 2 c_R_tellOf) = true := by decide +kernel
def F_R_tellOf_0 (t : Nat) (x1 : Int32) (x2 : Int32) (w : A_W) : Option (Int32 × A_W) :=
  if x2 = 6 then
    (ob w t 2).bind fun o2 =>
    (F_R_shineOf t x1 w).bind fun p1 =>
    some (p1.1, p1.2)
  else if x2 = 7 then
    (ob w t 2).bind fun o4 =>
    (F_R_reachOf t x1 w).bind fun p3 =>
    some (p3.1, p3.2)
  else if x2 = 8 then
    (ob w t 2).bind fun o6 =>
    (F_R_wearOf t x1 w).bind fun p5 =>
    some (p5.1, p5.2)
  else if x2 = 9 then
    (ob w t 2).bind fun o8 =>
    (F_R_costOf t x1 w).bind fun p7 =>
    some (p7.1, p7.2)
  else
    (ob w t 2).bind fun o10 =>
    (F_R_depositRow t x2 w).bind fun p9 =>
    (rd p9.2 p9.1 x1).bind fun v11 =>
    some (v11, p9.2)
set_option maxHeartbeats 4000000 in
set_option maxRecDepth 100000 in
theorem s_R_tellOf_0 {G : Gx} {X : Cx} {res : Int32 × A_W} (K : Ok G X 2 c_R_tellOf 3 (some .int) rm_R_tellOf) (hQ : QQ G X (some (.int res.1)) res.2 0 0) (t : Nat) (x1 : Int32) (x2 : Int32) (w : A_W) (h : F_R_tellOf_0 t x1 x2 w = some res) : Sm G X w 0 0 [some (.ref t), some (.int x1), some (.int x2)] [] 0 := by
  unfold F_R_tellOf_0 at h
  refine Sm_run K ek_R_tellOf 0 1 rfl ?_
  refine Sm_tsw K (eok_d (eo ek_R_tellOf (i := 1) rfl)) [32, 38, 44, 50] 56 (by decide) (by decide) (by decide) (fun j hj hx => ?_) (fun hx => ?_)
  · have hj : j < 4 := hj
    rcases (show j = 0 ∨ j = 1 ∨ j = 2 ∨ j = 3 by omega) with rfl | rfl | rfl | rfl
    · have hc : x2 = 6 := Int32.toInt_inj.mp (hx.trans (by decide))
      rw [if_pos hc] at h
      refine Sm_pc (pc1 := 32) rfl ?_
      refine Sm_run K ek_R_tellOf 2 2 rfl ?_
      obtain ⟨o2, e_o2, h⟩ := Option.bind_eq_some_iff.mp h
      obtain ⟨p1, e_p1, h⟩ := Option.bind_eq_some_iff.mp h
      refine Sm_callV K (eok_i (eo ek_R_tellOf (i := 4) rfl) rfl) cy_R_shineOf im_R_shineOf se_R_shineOf (lgm 293 (by decide +kernel) rfl) ⟨Nat.le_of_ble_eq_true rfl, Nat.le_of_ble_eq_true rfl⟩ (as := [.int x1]) (b := t) (st := []) (ob_e e_o2) (by decide) rfl rfl rfl rfl (Nat.le_of_ble_eq_true rfl) ⟨Nat.le_of_ble_eq_true rfl, Nat.le_of_ble_eq_true rfl⟩ (cn_R_shineOf e_p1) ?_
      refine Sm_eq (st1 := .int p1.1 :: []) (nc1 := 0) (ns1 := 0) rfl rfl rfl ?_
      obtain rfl := Option.some.inj h
      exact Sm_reti K hQ (eok_i (eo ek_R_tellOf (i := 5) rfl) rfl)
    · have hc : x2 = 7 := Int32.toInt_inj.mp (hx.trans (by decide))
      rw [if_neg (by rw [hc]; decide), if_pos hc] at h
      refine Sm_pc (pc1 := 38) rfl ?_
      refine Sm_run K ek_R_tellOf 6 2 rfl ?_
      obtain ⟨o4, e_o4, h⟩ := Option.bind_eq_some_iff.mp h
      obtain ⟨p3, e_p3, h⟩ := Option.bind_eq_some_iff.mp h
      refine Sm_callV K (eok_i (eo ek_R_tellOf (i := 8) rfl) rfl) cy_R_reachOf im_R_reachOf se_R_reachOf (lgm 300 (by decide +kernel) rfl) ⟨Nat.le_of_ble_eq_true rfl, Nat.le_of_ble_eq_true rfl⟩ (as := [.int x1]) (b := t) (st := []) (ob_e e_o4) (by decide) rfl rfl rfl rfl (Nat.le_of_ble_eq_true rfl) ⟨Nat.le_of_ble_eq_true rfl, Nat.le_of_ble_eq_true rfl⟩ (cn_R_reachOf e_p3) ?_
      refine Sm_eq (st1 := .int p3.1 :: []) (nc1 := 0) (ns1 := 0) rfl rfl rfl ?_
      obtain rfl := Option.some.inj h
      exact Sm_reti K hQ (eok_i (eo ek_R_tellOf (i := 9) rfl) rfl)
    · have hc : x2 = 8 := Int32.toInt_inj.mp (hx.trans (by decide))
      rw [if_neg (by rw [hc]; decide), if_neg (by rw [hc]; decide), if_pos hc] at h
      refine Sm_pc (pc1 := 44) rfl ?_
      refine Sm_run K ek_R_tellOf 10 2 rfl ?_
      obtain ⟨o6, e_o6, h⟩ := Option.bind_eq_some_iff.mp h
      obtain ⟨p5, e_p5, h⟩ := Option.bind_eq_some_iff.mp h
      refine Sm_callV K (eok_i (eo ek_R_tellOf (i := 12) rfl) rfl) cy_R_wearOf im_R_wearOf se_R_wearOf (lgm 304 (by decide +kernel) rfl) ⟨Nat.le_of_ble_eq_true rfl, Nat.le_of_ble_eq_true rfl⟩ (as := [.int x1]) (b := t) (st := []) (ob_e e_o6) (by decide) rfl rfl rfl rfl (Nat.le_of_ble_eq_true rfl) ⟨Nat.le_of_ble_eq_true rfl, Nat.le_of_ble_eq_true rfl⟩ (cn_R_wearOf e_p5) ?_
      refine Sm_eq (st1 := .int p5.1 :: []) (nc1 := 0) (ns1 := 0) rfl rfl rfl ?_
      obtain rfl := Option.some.inj h
      exact Sm_reti K hQ (eok_i (eo ek_R_tellOf (i := 13) rfl) rfl)
    · have hc : x2 = 9 := Int32.toInt_inj.mp (hx.trans (by decide))
      rw [if_neg (by rw [hc]; decide), if_neg (by rw [hc]; decide), if_neg (by rw [hc]; decide), if_pos hc] at h
      refine Sm_pc (pc1 := 50) rfl ?_
      refine Sm_run K ek_R_tellOf 14 2 rfl ?_
      obtain ⟨o8, e_o8, h⟩ := Option.bind_eq_some_iff.mp h
      obtain ⟨p7, e_p7, h⟩ := Option.bind_eq_some_iff.mp h
      refine Sm_callV K (eok_i (eo ek_R_tellOf (i := 16) rfl) rfl) cy_R_costOf im_R_costOf se_R_costOf (lgm 318 (by decide +kernel) rfl) ⟨Nat.le_of_ble_eq_true rfl, Nat.le_of_ble_eq_true rfl⟩ (as := [.int x1]) (b := t) (st := []) (ob_e e_o8) (by decide) rfl rfl rfl rfl (Nat.le_of_ble_eq_true rfl) ⟨Nat.le_of_ble_eq_true rfl, Nat.le_of_ble_eq_true rfl⟩ (cn_R_costOf e_p7) ?_
      refine Sm_eq (st1 := .int p7.1 :: []) (nc1 := 0) (ns1 := 0) rfl rfl rfl ?_
      obtain rfl := Option.some.inj h
      exact Sm_reti K hQ (eok_i (eo ek_R_tellOf (i := 17) rfl) rfl)
  · rw [if_neg (fun hc => hx 0 (by decide) (by rw [hc]; decide)), if_neg (fun hc => hx 1 (by decide) (by rw [hc]; decide)), if_neg (fun hc => hx 2 (by decide) (by rw [hc]; decide)), if_neg (fun hc => hx 3 (by decide) (by rw [hc]; decide))] at h
    refine Sm_run K ek_R_tellOf 18 2 rfl ?_
    obtain ⟨o10, e_o10, h⟩ := Option.bind_eq_some_iff.mp h
    obtain ⟨p9, e_p9, h⟩ := Option.bind_eq_some_iff.mp h
    refine Sm_callV K (eok_i (eo ek_R_tellOf (i := 20) rfl) rfl) cy_R_depositRow im_R_depositRow se_R_depositRow (lgm 322 (by decide +kernel) rfl) ⟨Nat.le_of_ble_eq_true rfl, Nat.le_of_ble_eq_true rfl⟩ (as := [.int x2]) (b := t) (st := []) (ob_e e_o10) (by decide) rfl rfl rfl rfl (Nat.le_of_ble_eq_true rfl) ⟨Nat.le_of_ble_eq_true rfl, Nat.le_of_ble_eq_true rfl⟩ (cn_R_depositRow e_p9) ?_
    refine Sm_eq (st1 := .ref p9.1 :: []) (nc1 := 0) (ns1 := 0) rfl rfl rfl ?_
    refine Sm_run K ek_R_tellOf 21 1 rfl ?_
    obtain ⟨v11, e_v11, h⟩ := Option.bind_eq_some_iff.mp h
    refine Sm_rd K (eok_i (eo ek_R_tellOf (i := 22) rfl) rfl) e_v11 ?_
    obtain rfl := Option.some.inj h
    exact Sm_reti K hQ (eok_i (eo ek_R_tellOf (i := 23) rfl) rfl)
def F_R_tellOf (t : Nat) (x1 : Int32) (x2 : Int32) (w : A_W) : Option (Int32 × A_W) := F_R_tellOf_0 t x1 x2 w
theorem cn_R_tellOf {G : Gx} {t : Nat} {x1 : Int32} {x2 : Int32} {w : A_W} {res : Int32 × A_W} (h : F_R_tellOf t x1 x2 w = some res) : Cn G y_R_tellOf c_R_tellOf 3 (some .int) rm_R_tellOf [.ref t, .int x1, .int x2] w (some (.int res.1)) res.2 :=
  Cn_of (own := 2) cy_R_tellOf rfl rfl (Nat.le_of_ble_eq_true rfl) rfl (fun X K _ hQ => Sm_le (leR_s (leR_s (leR_s leR_nil))) (s_R_tellOf_0 K hQ _ _ _ _ h))
