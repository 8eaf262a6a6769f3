/-! EveningCloakModel.isUnder(II)Z -/
abbrev c_M_isUnder : ByteArray := prog_6_method_89_code
def y_M_isUnder : MethodName := ⟨"EveningCloakModel", "isUnder", "(II)Z"⟩
def rm_M_isUnder : Room := { frames := 0, cells := 0, slots := 0, locals := 0 }
theorem cy_M_isUnder : Cy y_M_isUnder c_M_isUnder 3 (some .boolean) 2 := ⟨lgm 1165 (by decide +kernel) rfl, lgm 73 (by decide +kernel) rfl, by decide +kernel, by decide +kernel⟩
theorem st_M_isUnder : Cond.static y_M_isUnder ∈ lg := lgm 1164 (by decide +kernel) rfl
def e_M_isUnder : List Ent := [
  (0, .iload_n 0, 1, 1, .null, 0, 0, 0),
  (1, .iconst 3, 1, 2, .int 3, 0, 0, 0),
  (2, .if_icmp .eq 8, 3, 10, .null, 0, 0, 0),
  (5, .iload_n 0, 1, 6, .null, 0, 0, 0),
  (6, .iconst 4, 1, 7, .int 4, 0, 0, 0),
  (7, .if_icmp .ne 7, 3, 14, .null, 0, 0, 0),
  (10, .iconst 1, 1, 11, .int 1, 0, 0, 0),
  (11, .goto 4, 3, 15, .null, 0, 0, 0),
  (14, .iconst 0, 1, 15, .int 0, 0, 0, 0),
  (15, .istore_n 2, 1, 16, .null, 0, 0, 0),
  (16, .iload_n 1, 1, 17, .null, 0, 0, 0),
  (17, .ifCond .eq 38, 3, 55, .null, 0, 0, 0),
  (20, .iload_n 1, 1, 21, .null, 0, 0, 0),
  (21, .iload_n 0, 1, 22, .null, 0, 0, 0),
  (22, .if_icmp .eq 33, 3, 55, .null, 0, 0, 0),
  (25, .iload_n 1, 1, 26, .null, 0, 0, 0),
  (26, .iconst 1, 1, 27, .int 1, 0, 0, 0),
  (27, .if_icmp .ne 7, 3, 34, .null, 0, 0, 0),
  (30, .iload_n 2, 1, 31, .null, 0, 0, 0),
  (31, .ifCond .ne 24, 3, 55, .null, 0, 0, 0),
  (34, .iload_n 1, 1, 35, .null, 0, 0, 0),
  (35, .iconst 3, 1, 36, .int 3, 0, 0, 0),
  (36, .if_icmp .ne 8, 3, 44, .null, 0, 0, 0),
  (39, .iload_n 0, 1, 40, .null, 0, 0, 0),
  (40, .iconst 4, 1, 41, .int 4, 0, 0, 0),
  (41, .if_icmp .eq 14, 3, 55, .null, 0, 0, 0),
  (44, .iload_n 1, 1, 45, .null, 0, 0, 0),
  (45, .iconst 2, 1, 46, .int 2, 0, 0, 0),
  (46, .if_icmp .ne 13, 3, 59, .null, 0, 0, 0),
  (49, .iload_n 0, 1, 50, .null, 0, 0, 0),
  (50, .bipush 6, 2, 52, .int 6, 0, 0, 0),
  (52, .if_icmp .ne 7, 3, 59, .null, 0, 0, 0),
  (55, .iconst 1, 1, 56, .int 1, 0, 0, 0),
  (56, .goto 4, 3, 60, .null, 0, 0, 0),
  (59, .iconst 0, 1, 60, .int 0, 0, 0, 0),
  (60, .ireturn, 1, 61, .null, 0, 0, 0)]
set_option maxRecDepth 100000 in
theorem ek_M_isUnder : e_M_isUnder.all (eok 4 c_M_isUnder) = true := by decide +kernel
def F_M_isUnder_60 (y0 : Int32) (w : A_W) : Option (Int32 × A_W) :=
  (bz y0).bind fun b1 =>
  some (b1, w)
def F_M_isUnder_55 (w : A_W) : Option (Int32 × A_W) :=
  F_M_isUnder_60 1 w
def F_M_isUnder_59 (w : A_W) : Option (Int32 × A_W) :=
  F_M_isUnder_60 0 w
def F_M_isUnder_44 (x0 : Int32) (x1 : Int32) (w : A_W) : Option (Int32 × A_W) :=
  if x1 = 2 then
    if x0 = 6 then
      F_M_isUnder_55 w
    else
      F_M_isUnder_59 w
  else
    F_M_isUnder_59 w
def F_M_isUnder_34 (x0 : Int32) (x1 : Int32) (w : A_W) : Option (Int32 × A_W) :=
  if x1 = 3 then
    if x0 = 4 then
      F_M_isUnder_55 w
    else
      F_M_isUnder_44 x0 x1 w
  else
    F_M_isUnder_44 x0 x1 w
def F_M_isUnder_15 (x0 : Int32) (x1 : Int32) (y0 : Int32) (w : A_W) : Option (Int32 × A_W) :=
  if x1 = 0 then
    F_M_isUnder_55 w
  else
    if x1 = x0 then
      F_M_isUnder_55 w
    else
      if x1 = 1 then
        if y0 = 0 then
          F_M_isUnder_34 x0 x1 w
        else
          F_M_isUnder_55 w
      else
        F_M_isUnder_34 x0 x1 w
def F_M_isUnder_10 (x0 : Int32) (x1 : Int32) (w : A_W) : Option (Int32 × A_W) :=
  F_M_isUnder_15 x0 x1 1 w
def F_M_isUnder_0 (x0 : Int32) (x1 : Int32) (w : A_W) : Option (Int32 × A_W) :=
  if x0 = 3 then
    F_M_isUnder_10 x0 x1 w
  else
    if x0 = 4 then
      F_M_isUnder_10 x0 x1 w
    else
      F_M_isUnder_15 x0 x1 0 w
set_option maxHeartbeats 4000000 in
set_option maxRecDepth 100000 in
theorem s_M_isUnder_60 {G : Gx} {X : Cx} {res : Int32 × A_W} (K : Ok G X 4 c_M_isUnder 3 (some .boolean) rm_M_isUnder) (hQ : QQ G X (some (.int res.1)) res.2 0 0) (y0 : Int32) (w : A_W) (h : F_M_isUnder_60 y0 w = some res) : Sm G X w 0 0 [none, none, none] [.int y0] 60 := by
  unfold F_M_isUnder_60 at h
  obtain ⟨b1, e_b1, h⟩ := Option.bind_eq_some_iff.mp h
  obtain rfl := Option.some.inj h
  exact Sm_retz K e_b1 hQ (eok_i (eo ek_M_isUnder (i := 35) rfl) rfl)
set_option maxHeartbeats 4000000 in
set_option maxRecDepth 100000 in
theorem s_M_isUnder_55 {G : Gx} {X : Cx} {res : Int32 × A_W} (K : Ok G X 4 c_M_isUnder 3 (some .boolean) rm_M_isUnder) (hQ : QQ G X (some (.int res.1)) res.2 0 0) (w : A_W) (h : F_M_isUnder_55 w = some res) : Sm G X w 0 0 [none, none, none] [] 55 := by
  unfold F_M_isUnder_55 at h
  refine Sm_run K ek_M_isUnder 32 2 rfl ?_
  exact Sm_le (leR_n (leR_n (leR_n leR_nil))) (s_M_isUnder_60 K hQ _ _ h)
set_option maxHeartbeats 4000000 in
set_option maxRecDepth 100000 in
theorem s_M_isUnder_59 {G : Gx} {X : Cx} {res : Int32 × A_W} (K : Ok G X 4 c_M_isUnder 3 (some .boolean) rm_M_isUnder) (hQ : QQ G X (some (.int res.1)) res.2 0 0) (w : A_W) (h : F_M_isUnder_59 w = some res) : Sm G X w 0 0 [none, none, none] [] 59 := by
  unfold F_M_isUnder_59 at h
  refine Sm_run K ek_M_isUnder 34 1 rfl ?_
  exact Sm_le (leR_n (leR_n (leR_n leR_nil))) (s_M_isUnder_60 K hQ _ _ h)
set_option maxHeartbeats 4000000 in
set_option maxRecDepth 100000 in
theorem s_M_isUnder_44 {G : Gx} {X : Cx} {res : Int32 × A_W} (K : Ok G X 4 c_M_isUnder 3 (some .boolean) rm_M_isUnder) (hQ : QQ G X (some (.int res.1)) res.2 0 0) (x0 : Int32) (x1 : Int32) (w : A_W) (h : F_M_isUnder_44 x0 x1 w = some res) : Sm G X w 0 0 [some (.int x0), some (.int x1), none] [] 44 := by
  unfold F_M_isUnder_44 at h
  refine Sm_run K ek_M_isUnder 26 2 rfl ?_
  refine Sm_ic_ne K (eo ek_M_isUnder (i := 28) rfl) (fun c1 => ?_) (fun c1 => ?_)
  · rw [if_neg c1] at h
    exact Sm_le (leR_n (leR_n (leR_n leR_nil))) (s_M_isUnder_59 K hQ _ h)
  · rw [if_pos c1] at h
    refine Sm_run K ek_M_isUnder 29 2 rfl ?_
    refine Sm_ic_ne K (eo ek_M_isUnder (i := 31) rfl) (fun c2 => ?_) (fun c2 => ?_)
    · rw [if_neg c2] at h
      exact Sm_le (leR_n (leR_n (leR_n leR_nil))) (s_M_isUnder_59 K hQ _ h)
    · rw [if_pos c2] at h
      exact Sm_le (leR_n (leR_n (leR_n leR_nil))) (s_M_isUnder_55 K hQ _ h)
set_option maxHeartbeats 4000000 in
set_option maxRecDepth 100000 in
theorem s_M_isUnder_34 {G : Gx} {X : Cx} {res : Int32 × A_W} (K : Ok G X 4 c_M_isUnder 3 (some .boolean) rm_M_isUnder) (hQ : QQ G X (some (.int res.1)) res.2 0 0) (x0 : Int32) (x1 : Int32) (w : A_W) (h : F_M_isUnder_34 x0 x1 w = some res) : Sm G X w 0 0 [some (.int x0), some (.int x1), none] [] 34 := by
  unfold F_M_isUnder_34 at h
  refine Sm_run K ek_M_isUnder 20 2 rfl ?_
  refine Sm_ic_ne K (eo ek_M_isUnder (i := 22) rfl) (fun c1 => ?_) (fun c1 => ?_)
  · rw [if_neg c1] at h
    exact Sm_le (leR_s (leR_s (leR_n leR_nil))) (s_M_isUnder_44 K hQ _ _ _ h)
  · rw [if_pos c1] at h
    refine Sm_run K ek_M_isUnder 23 2 rfl ?_
    refine Sm_ic_eq K (eo ek_M_isUnder (i := 25) rfl) (fun c2 => ?_) (fun c2 => ?_)
    · rw [if_pos c2] at h
      exact Sm_le (leR_n (leR_n (leR_n leR_nil))) (s_M_isUnder_55 K hQ _ h)
    · rw [if_neg c2] at h
      exact Sm_le (leR_s (leR_s (leR_n leR_nil))) (s_M_isUnder_44 K hQ _ _ _ h)
set_option maxHeartbeats 4000000 in
set_option maxRecDepth 100000 in
theorem s_M_isUnder_15 {G : Gx} {X : Cx} {res : Int32 × A_W} (K : Ok G X 4 c_M_isUnder 3 (some .boolean) rm_M_isUnder) (hQ : QQ G X (some (.int res.1)) res.2 0 0) (x0 : Int32) (x1 : Int32) (y0 : Int32) (w : A_W) (h : F_M_isUnder_15 x0 x1 y0 w = some res) : Sm G X w 0 0 [some (.int x0), some (.int x1), none] [.int y0] 15 := by
  unfold F_M_isUnder_15 at h
  refine Sm_run K ek_M_isUnder 9 2 rfl ?_
  refine Sm_if_eq K (eo ek_M_isUnder (i := 11) rfl) (fun c1 => ?_) (fun c1 => ?_)
  · rw [if_pos c1] at h
    exact Sm_le (leR_n (leR_n (leR_n leR_nil))) (s_M_isUnder_55 K hQ _ h)
  · rw [if_neg c1] at h
    refine Sm_run K ek_M_isUnder 12 2 rfl ?_
    refine Sm_ic_eq K (eo ek_M_isUnder (i := 14) rfl) (fun c2 => ?_) (fun c2 => ?_)
    · rw [if_pos c2] at h
      exact Sm_le (leR_n (leR_n (leR_n leR_nil))) (s_M_isUnder_55 K hQ _ h)
    · rw [if_neg c2] at h
      refine Sm_run K ek_M_isUnder 15 2 rfl ?_
      refine Sm_ic_ne K (eo ek_M_isUnder (i := 17) rfl) (fun c3 => ?_) (fun c3 => ?_)
      · rw [if_neg c3] at h
        exact Sm_le (leR_s (leR_s (leR_n leR_nil))) (s_M_isUnder_34 K hQ _ _ _ h)
      · rw [if_pos c3] at h
        refine Sm_run K ek_M_isUnder 18 1 rfl ?_
        refine Sm_if_ne K (eo ek_M_isUnder (i := 19) rfl) (fun c4 => ?_) (fun c4 => ?_)
        · rw [if_neg c4] at h
          exact Sm_le (leR_n (leR_n (leR_n leR_nil))) (s_M_isUnder_55 K hQ _ h)
        · rw [if_pos c4] at h
          exact Sm_le (leR_s (leR_s (leR_n leR_nil))) (s_M_isUnder_34 K hQ _ _ _ h)
set_option maxHeartbeats 4000000 in
set_option maxRecDepth 100000 in
theorem s_M_isUnder_10 {G : Gx} {X : Cx} {res : Int32 × A_W} (K : Ok G X 4 c_M_isUnder 3 (some .boolean) rm_M_isUnder) (hQ : QQ G X (some (.int res.1)) res.2 0 0) (x0 : Int32) (x1 : Int32) (w : A_W) (h : F_M_isUnder_10 x0 x1 w = some res) : Sm G X w 0 0 [some (.int x0), some (.int x1), none] [] 10 := by
  unfold F_M_isUnder_10 at h
  refine Sm_run K ek_M_isUnder 6 2 rfl ?_
  exact Sm_le (leR_s (leR_s (leR_n leR_nil))) (s_M_isUnder_15 K hQ _ _ _ _ h)
set_option maxHeartbeats 4000000 in
set_option maxRecDepth 100000 in
theorem s_M_isUnder_0 {G : Gx} {X : Cx} {res : Int32 × A_W} (K : Ok G X 4 c_M_isUnder 3 (some .boolean) rm_M_isUnder) (hQ : QQ G X (some (.int res.1)) res.2 0 0) (x0 : Int32) (x1 : Int32) (w : A_W) (h : F_M_isUnder_0 x0 x1 w = some res) : Sm G X w 0 0 [some (.int x0), some (.int x1), none] [] 0 := by
  unfold F_M_isUnder_0 at h
  refine Sm_run K ek_M_isUnder 0 2 rfl ?_
  refine Sm_ic_eq K (eo ek_M_isUnder (i := 2) rfl) (fun c1 => ?_) (fun c1 => ?_)
  · rw [if_pos c1] at h
    exact Sm_le (leR_s (leR_s (leR_n leR_nil))) (s_M_isUnder_10 K hQ _ _ _ h)
  · rw [if_neg c1] at h
    refine Sm_run K ek_M_isUnder 3 2 rfl ?_
    refine Sm_ic_ne K (eo ek_M_isUnder (i := 5) rfl) (fun c2 => ?_) (fun c2 => ?_)
    · rw [if_neg c2] at h
      refine Sm_run K ek_M_isUnder 8 1 rfl ?_
      exact Sm_le (leR_s (leR_s (leR_n leR_nil))) (s_M_isUnder_15 K hQ _ _ _ _ h)
    · rw [if_pos c2] at h
      exact Sm_le (leR_s (leR_s (leR_n leR_nil))) (s_M_isUnder_10 K hQ _ _ _ h)
def F_M_isUnder (x0 : Int32) (x1 : Int32) (w : A_W) : Option (Int32 × A_W) := F_M_isUnder_0 x0 x1 w
theorem cn_M_isUnder {G : Gx} {x0 : Int32} {x1 : Int32} {w : A_W} {res : Int32 × A_W} (h : F_M_isUnder x0 x1 w = some res) : Cn G y_M_isUnder c_M_isUnder 3 (some .boolean) rm_M_isUnder [.int x0, .int x1] w (some (.int res.1)) res.2 :=
  Cn_of (own := 4) cy_M_isUnder rfl rfl (Nat.le_of_ble_eq_true rfl) rfl (fun X K _ hQ => Sm_le (leR_s (leR_s (leR_n leR_nil))) (s_M_isUnder_0 K hQ _ _ _ h))
/-! EveningCloakModel.as(II)I -/
abbrev c_M_as : ByteArray := prog_6_method_90_code
def y_M_as : MethodName := ⟨"EveningCloakModel", "as", "(II)I"⟩
def rm_M_as : Room := { frames := 1, cells := 0, slots := 0, locals := 22 }
theorem cy_M_as : Cy y_M_as c_M_as 4 (some .int) 2 := ⟨lgm 1162 (by decide +kernel) rfl, lgm 73 (by decide +kernel) rfl, by decide +kernel, by decide +kernel⟩
theorem im_M_as : Cond.instanceMethod y_M_as ∈ lg := lgm 1160 (by decide +kernel) rfl
theorem se_M_as : Cond.selects y_M_as.cls y_M_as y_M_as ∈ lg := lgm 1161 (by decide +kernel) rfl
def e_M_as : List Ent := [
  (0, .iload_n 1, 1, 1, .null, 0, 0, 0),
  (1, .iconst 0, 1, 2, .int 0, 0, 0, 0),
  (2, .bipush 9, 2, 4, .int 9, 0, 0, 0),
  (4, .invokestatic 40, 3, 7, .null, 0, 0, 0),
  (7, .ifCond .eq 13, 3, 20, .null, 0, 0, 0),
  (10, .iload_n 2, 1, 11, .null, 0, 0, 0),
  (11, .iconst 0, 1, 12, .int 0, 0, 0, 0),
  (12, .bipush 6, 2, 14, .int 6, 0, 0, 0),
  (14, .invokestatic 40, 3, 17, .null, 0, 0, 0),
  (17, .ifCond .ne 10, 3, 27, .null, 0, 0, 0),
  (20, .aload_n 0, 1, 21, .null, 0, 0, 0),
  (21, .ldc 34, 2, 23, .int (-1000001), 0, 0, 825),
  (23, .invokevirtual 36, 3, 26, .null, 0, 0, 0),
  (26, .ireturn, 1, 27, .null, 0, 0, 0),
  (27, .aload_n 0, 1, 28, .null, 0, 0, 0),
  (28, .getfield 9, 3, 31, .null, 4, 0, 762),
  (31, .bipush 77, 2, 33, .int 77, 0, 0, 0),
  (33, .iload_n 1, 1, 34, .null, 0, 0, 0),
  (34, .iadd, 1, 35, .null, 0, 0, 0),
  (35, .iaload, 1, 36, .null, 0, 0, 0),
  (36, .istore_n 3, 1, 37, .null, 0, 0, 0),
  (37, .iload_n 3, 1, 38, .null, 0, 0, 0),
  (38, .ifCond .ge 10, 3, 48, .null, 0, 0, 0),
  (41, .aload_n 0, 1, 42, .null, 0, 0, 0),
  (42, .ldc 168, 2, 44, .int (-1000006), 0, 0, 1065),
  (44, .invokevirtual 36, 3, 47, .null, 0, 0, 0),
  (47, .ireturn, 1, 48, .null, 0, 0, 0),
  (48, .aload_n 0, 1, 49, .null, 0, 0, 0),
  (49, .iload_n 3, 1, 50, .null, 0, 0, 0),
  (50, .iconst 0, 1, 51, .int 0, 0, 0, 0),
  (51, .invokevirtual 44, 3, 54, .null, 0, 0, 0),
  (54, .iload_n 2, 1, 55, .null, 0, 0, 0),
  (55, .invokestatic 245, 3, 58, .null, 0, 0, 0),
  (58, .ifCond .eq 7, 3, 65, .null, 0, 0, 0),
  (61, .iload_n 3, 1, 62, .null, 0, 0, 0),
  (62, .goto 9, 3, 71, .null, 0, 0, 0),
  (65, .aload_n 0, 1, 66, .null, 0, 0, 0),
  (66, .ldc 248, 2, 68, .int (-1000003), 0, 0, 1166),
  (68, .invokevirtual 36, 3, 71, .null, 0, 0, 0),
  (71, .ireturn, 1, 72, .null, 0, 0, 0)]
set_option maxRecDepth 100000 in
theorem ek_M_as : e_M_as.all (eok 4 c_M_as) = true := by decide +kernel
def F_M_as_20 (t : Nat) (w : A_W) : Option (Int32 × A_W) :=
  (ob w t 4).bind fun o2 =>
  (F_M_finds t (-1000001) w).bind fun p1 =>
  some (p1.1, p1.2)
def F_M_as_71 (y0 : Int32) (w : A_W) : Option (Int32 × A_W) :=
  some (y0, w)
def F_M_as_0 (t : Nat) (x1 : Int32) (x2 : Int32) (w : A_W) : Option (Int32 × A_W) :=
  (F_M_in x1 0 9 w).bind fun p1 =>
  if p1.1 = 0 then
    F_M_as_20 t p1.2
  else
    (F_M_in x2 0 6 p1.2).bind fun p3 =>
    if p3.1 = 0 then
      F_M_as_20 t p3.2
    else
      (gr p3.2 t 4 0).bind fun a5 =>
      (rd p3.2 a5 (77 + x1)).bind fun v6 =>
      if 0 ≤ v6 then
        (ob p3.2 t 4).bind fun o9 =>
        (F_M_it t v6 0 p3.2).bind fun p8 =>
        (F_M_isUnder p8.1 x2 p8.2).bind fun p10 =>
        if p10.1 = 0 then
          (ob p10.2 t 4).bind fun o13 =>
          (F_M_finds t (-1000003) p10.2).bind fun p12 =>
          F_M_as_71 p12.1 p12.2
        else
          F_M_as_71 v6 p10.2
      else
        (ob p3.2 t 4).bind fun o15 =>
        (F_M_finds t (-1000006) p3.2).bind fun p14 =>
        some (p14.1, p14.2)
set_option maxHeartbeats 4000000 in
set_option maxRecDepth 100000 in
theorem s_M_as_20 {G : Gx} {X : Cx} {res : Int32 × A_W} (K : Ok G X 4 c_M_as 4 (some .int) rm_M_as) (hQ : QQ G X (some (.int res.1)) res.2 0 0) (t : Nat) (w : A_W) (h : F_M_as_20 t w = some res) : Sm G X w 0 0 [some (.ref t), none, none, none] [] 20 := by
  unfold F_M_as_20 at h
  refine Sm_run K ek_M_as 10 2 rfl ?_
  obtain ⟨o2, e_o2, h⟩ := Option.bind_eq_some_iff.mp h
  obtain ⟨p1, e_p1, h⟩ := Option.bind_eq_some_iff.mp h
  refine Sm_callV K (eok_i (eo ek_M_as (i := 12) rfl) rfl) cy_M_finds im_M_finds se_M_finds (lgm 826 (by decide +kernel) rfl) ⟨Nat.le_of_ble_eq_true rfl, Nat.le_of_ble_eq_true rfl⟩ (as := [.int (-1000001)]) (b := t) (st := []) (ob_e e_o2) (by decide) rfl rfl rfl rfl (Nat.le_of_ble_eq_true rfl) ⟨Nat.le_of_ble_eq_true rfl, Nat.le_of_ble_eq_true rfl⟩ (cn_M_finds e_p1) ?_
  refine Sm_eq (st1 := .int p1.1 :: []) (nc1 := 0) (ns1 := 0) rfl rfl rfl ?_
  obtain rfl := Option.some.inj h
  exact Sm_reti K hQ (eok_i (eo ek_M_as (i := 13) rfl) rfl)
set_option maxHeartbeats 4000000 in
set_option maxRecDepth 100000 in
theorem s_M_as_71 {G : Gx} {X : Cx} {res : Int32 × A_W} (K : Ok G X 4 c_M_as 4 (some .int) rm_M_as) (hQ : QQ G X (some (.int res.1)) res.2 0 0) (y0 : Int32) (w : A_W) (h : F_M_as_71 y0 w = some res) : Sm G X w 0 0 [none, none, none, none] [.int y0] 71 := by
  unfold F_M_as_71 at h
  obtain rfl := Option.some.inj h
  exact Sm_reti K hQ (eok_i (eo ek_M_as (i := 39) rfl) rfl)
set_option maxHeartbeats 4000000 in
set_option maxRecDepth 100000 in
theorem s_M_as_0 {G : Gx} {X : Cx} {res : Int32 × A_W} (K : Ok G X 4 c_M_as 4 (some .int) rm_M_as) (hQ : QQ G X (some (.int res.1)) res.2 0 0) (t : Nat) (x1 : Int32) (x2 : Int32) (w : A_W) (h : F_M_as_0 t x1 x2 w = some res) : Sm G X w 0 0 [some (.ref t), some (.int x1), some (.int x2), none] [] 0 := by
  unfold F_M_as_0 at h
  refine Sm_run K ek_M_as 0 3 rfl ?_
  obtain ⟨p1, e_p1, h⟩ := Option.bind_eq_some_iff.mp h
  refine Sm_callS K (eok_i (eo ek_M_as (i := 3) rfl) rfl) cy_M_in st_M_in (lgm 815 (by decide +kernel) rfl) ⟨Nat.le_of_ble_eq_true rfl, Nat.le_of_ble_eq_true rfl⟩ (as := [.int x1, .int 0, .int 9]) (st := []) rfl rfl rfl (Nat.le_of_ble_eq_true rfl) ⟨Nat.le_of_ble_eq_true rfl, Nat.le_of_ble_eq_true rfl⟩ (cn_M_in e_p1) ?_
  refine Sm_eq (st1 := .int p1.1 :: []) (nc1 := 0) (ns1 := 0) rfl rfl rfl ?_
  refine Sm_if_eq K (eo ek_M_as (i := 4) rfl) (fun c2 => ?_) (fun c2 => ?_)
  · rw [if_pos c2] at h
    exact Sm_le (leR_s (leR_n (leR_n (leR_n leR_nil)))) (s_M_as_20 K hQ _ _ h)
  · rw [if_neg c2] at h
    refine Sm_run K ek_M_as 5 3 rfl ?_
    obtain ⟨p3, e_p3, h⟩ := Option.bind_eq_some_iff.mp h
    refine Sm_callS K (eok_i (eo ek_M_as (i := 8) rfl) rfl) cy_M_in st_M_in (lgm 815 (by decide +kernel) rfl) ⟨Nat.le_of_ble_eq_true rfl, Nat.le_of_ble_eq_true rfl⟩ (as := [.int x2, .int 0, .int 6]) (st := []) rfl rfl rfl (Nat.le_of_ble_eq_true rfl) ⟨Nat.le_of_ble_eq_true rfl, Nat.le_of_ble_eq_true rfl⟩ (cn_M_in e_p3) ?_
    refine Sm_eq (st1 := .int p3.1 :: []) (nc1 := 0) (ns1 := 0) rfl rfl rfl ?_
    refine Sm_if_ne K (eo ek_M_as (i := 9) rfl) (fun c4 => ?_) (fun c4 => ?_)
    · rw [if_neg c4] at h
      refine Sm_run K ek_M_as 14 1 rfl ?_
      obtain ⟨a5, e_a5, h⟩ := Option.bind_eq_some_iff.mp h
      refine Sm_gr K (eo ek_M_as (i := 15) rfl) e_a5 ?_
      refine Sm_run K ek_M_as 16 3 rfl ?_
      obtain ⟨v6, e_v6, h⟩ := Option.bind_eq_some_iff.mp h
      refine Sm_rd K (eok_i (eo ek_M_as (i := 19) rfl) rfl) e_v6 ?_
      refine Sm_run K ek_M_as 20 2 rfl ?_
      refine Sm_if_ge K (eo ek_M_as (i := 22) rfl) (fun c7 => ?_) (fun c7 => ?_)
      · rw [if_pos c7] at h
        refine Sm_run K ek_M_as 27 3 rfl ?_
        obtain ⟨o9, e_o9, h⟩ := Option.bind_eq_some_iff.mp h
        obtain ⟨p8, e_p8, h⟩ := Option.bind_eq_some_iff.mp h
        refine Sm_callV K (eok_i (eo ek_M_as (i := 30) rfl) rfl) cy_M_it im_M_it se_M_it (lgm 871 (by decide +kernel) rfl) ⟨Nat.le_of_ble_eq_true rfl, Nat.le_of_ble_eq_true rfl⟩ (as := [.int v6, .int 0]) (b := t) (st := []) (ob_e e_o9) (by decide) rfl rfl rfl rfl (Nat.le_of_ble_eq_true rfl) ⟨Nat.le_of_ble_eq_true rfl, Nat.le_of_ble_eq_true rfl⟩ (cn_M_it e_p8) ?_
        refine Sm_eq (st1 := .int p8.1 :: []) (nc1 := 0) (ns1 := 0) rfl rfl rfl ?_
        refine Sm_run K ek_M_as 31 1 rfl ?_
        obtain ⟨p10, e_p10, h⟩ := Option.bind_eq_some_iff.mp h
        refine Sm_callS K (eok_i (eo ek_M_as (i := 32) rfl) rfl) cy_M_isUnder st_M_isUnder (lgm 1163 (by decide +kernel) rfl) ⟨Nat.le_of_ble_eq_true rfl, Nat.le_of_ble_eq_true rfl⟩ (as := [.int p8.1, .int x2]) (st := []) rfl rfl rfl (Nat.le_of_ble_eq_true rfl) ⟨Nat.le_of_ble_eq_true rfl, Nat.le_of_ble_eq_true rfl⟩ (cn_M_isUnder e_p10) ?_
        refine Sm_eq (st1 := .int p10.1 :: []) (nc1 := 0) (ns1 := 0) rfl rfl rfl ?_
        refine Sm_if_eq K (eo ek_M_as (i := 33) rfl) (fun c11 => ?_) (fun c11 => ?_)
        · rw [if_pos c11] at h
          refine Sm_run K ek_M_as 36 2 rfl ?_
          obtain ⟨o13, e_o13, h⟩ := Option.bind_eq_some_iff.mp h
          obtain ⟨p12, e_p12, h⟩ := Option.bind_eq_some_iff.mp h
          refine Sm_callV K (eok_i (eo ek_M_as (i := 38) rfl) rfl) cy_M_finds im_M_finds se_M_finds (lgm 826 (by decide +kernel) rfl) ⟨Nat.le_of_ble_eq_true rfl, Nat.le_of_ble_eq_true rfl⟩ (as := [.int (-1000003)]) (b := t) (st := []) (ob_e e_o13) (by decide) rfl rfl rfl rfl (Nat.le_of_ble_eq_true rfl) ⟨Nat.le_of_ble_eq_true rfl, Nat.le_of_ble_eq_true rfl⟩ (cn_M_finds e_p12) ?_
          refine Sm_eq (st1 := .int p12.1 :: []) (nc1 := 0) (ns1 := 0) rfl rfl rfl ?_
          exact Sm_le (leR_n (leR_n (leR_n (leR_n leR_nil)))) (s_M_as_71 K hQ _ _ h)
        · rw [if_neg c11] at h
          refine Sm_run K ek_M_as 34 2 rfl ?_
          exact Sm_le (leR_n (leR_n (leR_n (leR_n leR_nil)))) (s_M_as_71 K hQ _ _ h)
      · rw [if_neg c7] at h
        refine Sm_run K ek_M_as 23 2 rfl ?_
        obtain ⟨o15, e_o15, h⟩ := Option.bind_eq_some_iff.mp h
        obtain ⟨p14, e_p14, h⟩ := Option.bind_eq_some_iff.mp h
        refine Sm_callV K (eok_i (eo ek_M_as (i := 25) rfl) rfl) cy_M_finds im_M_finds se_M_finds (lgm 826 (by decide +kernel) rfl) ⟨Nat.le_of_ble_eq_true rfl, Nat.le_of_ble_eq_true rfl⟩ (as := [.int (-1000006)]) (b := t) (st := []) (ob_e e_o15) (by decide) rfl rfl rfl rfl (Nat.le_of_ble_eq_true rfl) ⟨Nat.le_of_ble_eq_true rfl, Nat.le_of_ble_eq_true rfl⟩ (cn_M_finds e_p14) ?_
        refine Sm_eq (st1 := .int p14.1 :: []) (nc1 := 0) (ns1 := 0) rfl rfl rfl ?_
        obtain rfl := Option.some.inj h
        exact Sm_reti K hQ (eok_i (eo ek_M_as (i := 26) rfl) rfl)
    · rw [if_pos c4] at h
      exact Sm_le (leR_s (leR_n (leR_n (leR_n leR_nil)))) (s_M_as_20 K hQ _ _ h)
def F_M_as (t : Nat) (x1 : Int32) (x2 : Int32) (w : A_W) : Option (Int32 × A_W) := F_M_as_0 t x1 x2 w
theorem cn_M_as {G : Gx} {t : Nat} {x1 : Int32} {x2 : Int32} {w : A_W} {res : Int32 × A_W} (h : F_M_as t x1 x2 w = some res) : Cn G y_M_as c_M_as 4 (some .int) rm_M_as [.ref t, .int x1, .int x2] w (some (.int res.1)) res.2 :=
  Cn_of (own := 4) cy_M_as rfl rfl (Nat.le_of_ble_eq_true rfl) rfl (fun X K _ hQ => Sm_le (leR_s (leR_s (leR_s (leR_n leR_nil)))) (s_M_as_0 K hQ _ _ _ _ h))
/-! EveningCloakModel.sheet(III)I -/
abbrev c_M_sheet : ByteArray := prog_6_method_91_code
def y_M_sheet : MethodName := ⟨"EveningCloakModel", "sheet", "(III)I"⟩
def rm_M_sheet : Room := { frames := 2, cells := 0, slots := 0, locals := 42 }
theorem cy_M_sheet : Cy y_M_sheet c_M_sheet 5 (some .int) 3 := ⟨lgm 1170 (by decide +kernel) rfl, lgm 73 (by decide +kernel) rfl, by decide +kernel, by decide +kernel⟩
theorem im_M_sheet : Cond.instanceMethod y_M_sheet ∈ lg := lgm 1168 (by decide +kernel) rfl
theorem se_M_sheet : Cond.selects y_M_sheet.cls y_M_sheet y_M_sheet ∈ lg := lgm 1169 (by decide +kernel) rfl
def e_M_sheet : List Ent := [
  (0, .iload_n 1, 1, 1, .null, 0, 0, 0),
  (1, .invokestatic 165, 3, 4, .null, 0, 0, 0),
  (4, .ifCond .eq 25, 3, 29, .null, 0, 0, 0),
  (7, .iload_n 2, 1, 8, .null, 0, 0, 0),
  (8, .ifCond .eq 28, 3, 36, .null, 0, 0, 0),
  (11, .iload_n 2, 1, 12, .null, 0, 0, 0),
  (12, .bipush 8, 2, 14, .int 8, 0, 0, 0),
  (14, .if_icmp .eq 22, 3, 36, .null, 0, 0, 0),
  (17, .iload_n 2, 1, 18, .null, 0, 0, 0),
  (18, .bipush 16, 2, 20, .int 16, 0, 0, 0),
  (20, .if_icmp .eq 16, 3, 36, .null, 0, 0, 0),
  (23, .iload_n 2, 1, 24, .null, 0, 0, 0),
  (24, .bipush 32, 2, 26, .int 32, 0, 0, 0),
  (26, .if_icmp .eq 10, 3, 36, .null, 0, 0, 0),
  (29, .aload_n 0, 1, 30, .null, 0, 0, 0),
  (30, .ldc 34, 2, 32, .int (-1000001), 0, 0, 825),
  (32, .invokevirtual 36, 3, 35, .null, 0, 0, 0),
  (35, .ireturn, 1, 36, .null, 0, 0, 0),
  (36, .iload_n 3, 1, 37, .null, 0, 0, 0),
  (37, .ifCond .ge 10, 3, 47, .null, 0, 0, 0),
  (40, .aload_n 0, 1, 41, .null, 0, 0, 0),
  (41, .ldc 249, 2, 43, .int (-1000007), 0, 0, 1171),
  (43, .invokevirtual 36, 3, 46, .null, 0, 0, 0),
  (46, .ireturn, 1, 47, .null, 0, 0, 0),
  (47, .iload_n 3, 1, 48, .null, 0, 0, 0),
  (48, .bipush 40, 2, 50, .int 40, 0, 0, 0),
  (50, .if_icmp .le 10, 3, 60, .null, 0, 0, 0),
  (53, .aload_n 0, 1, 54, .null, 0, 0, 0),
  (54, .ldc 34, 2, 56, .int (-1000001), 0, 0, 825),
  (56, .invokevirtual 36, 3, 59, .null, 0, 0, 0),
  (59, .ireturn, 1, 60, .null, 0, 0, 0),
  (60, .aload_n 0, 1, 61, .null, 0, 0, 0),
  (61, .getfield 22, 3, 64, .null, 4, 5, 767),
  (64, .iload_n 1, 1, 65, .null, 0, 0, 0),
  (65, .iload_n 2, 1, 66, .null, 0, 0, 0),
  (66, .iastore, 1, 67, .null, 0, 0, 0),
  (67, .aload_n 0, 1, 68, .null, 0, 0, 0),
  (68, .getfield 25, 3, 71, .null, 4, 6, 768),
  (71, .iload_n 1, 1, 72, .null, 0, 0, 0),
  (72, .iload_n 2, 1, 73, .null, 0, 0, 0),
  (73, .ifCond .ne 7, 3, 80, .null, 0, 0, 0),
  (76, .iconst 0, 1, 77, .int 0, 0, 0, 0),
  (77, .goto 4, 3, 81, .null, 0, 0, 0),
  (80, .iload_n 3, 1, 81, .null, 0, 0, 0),
  (81, .iastore, 1, 82, .null, 0, 0, 0),
  (82, .iconst 0, 1, 83, .int 0, 0, 0, 0),
  (83, .istore 4, 2, 85, .null, 0, 0, 0),
  (85, .iload 4, 2, 87, .null, 0, 0, 0),
  (87, .bipush 40, 2, 89, .int 40, 0, 0, 0),
  (89, .if_icmp .ge 22, 3, 111, .null, 0, 0, 0),
  (92, .aload_n 0, 1, 93, .null, 0, 0, 0),
  (93, .getfield 28, 3, 96, .null, 4, 7, 769),
  (96, .bipush 40, 2, 98, .int 40, 0, 0, 0),
  (98, .iload_n 1, 1, 99, .null, 0, 0, 0),
  (99, .imul, 1, 100, .null, 0, 0, 0),
  (100, .iload 4, 2, 102, .null, 0, 0, 0),
  (102, .iadd, 1, 103, .null, 0, 0, 0),
  (103, .iconst 0, 1, 104, .int 0, 0, 0, 0),
  (104, .iastore, 1, 105, .null, 0, 0, 0),
  (105, .iinc 4 1, 3, 108, .int 1, 0, 0, 0),
  (108, .goto (-23), 3, 85, .null, 0, 0, 0),
  (111, .aload_n 0, 1, 112, .null, 0, 0, 0),
  (112, .getfield 25, 3, 115, .null, 4, 6, 768),
  (115, .iload_n 1, 1, 116, .null, 0, 0, 0),
  (116, .iaload, 1, 117, .null, 0, 0, 0),
  (117, .ireturn, 1, 118, .null, 0, 0, 0)]
set_option maxRecDepth 100000 in
theorem ek_M_sheet : e_M_sheet.all (eok 4 c_M_sheet) = true := by decide +kernel
def F_M_sheet_29 (t : Nat) (w : A_W) : Option (Int32 × A_W) :=
  (ob w t 4).bind fun o2 =>
  (F_M_finds t (-1000001) w).bind fun p1 =>
  some (p1.1, p1.2)
def F_M_sheet_85 : Nat → Nat → Int32 → Int32 → A_W → Option (Int32 × A_W)
  | 0, _, _, _, _ => none
  | n + 1, t, x1, x4, w =>
    if 40 ≤ x4 then
      (gr w t 4 6).bind fun a2 =>
      (rd w a2 x1).bind fun v3 =>
      some (v3, w)
    else
      (gr w t 4 7).bind fun a4 =>
      (wr w a4 ((40 * x1) + x4) 0).bind fun w5 =>
      F_M_sheet_85 n t x1 (x4 + 1) w5
def F_M_sheet_81 (t : Nat) (x1 : Int32) (y0 : Nat) (y1 : Int32) (y2 : Int32) (w : A_W) : Option (Int32 × A_W) :=
  (wr w y0 y1 y2).bind fun w1 =>
  F_M_sheet_85 FU t x1 0 w1
def F_M_sheet_36 (t : Nat) (x1 : Int32) (x2 : Int32) (x3 : Int32) (w : A_W) : Option (Int32 × A_W) :=
  if 0 ≤ x3 then
    if x3 ≤ 40 then
      (gr w t 4 5).bind fun a3 =>
      (wr w a3 x1 x2).bind fun w4 =>
      (gr w4 t 4 6).bind fun a5 =>
      if x2 = 0 then
        F_M_sheet_81 t x1 a5 x1 0 w4
      else
        F_M_sheet_81 t x1 a5 x1 x3 w4
    else
      (ob w t 4).bind fun o8 =>
      (F_M_finds t (-1000001) w).bind fun p7 =>
      some (p7.1, p7.2)
  else
    (ob w t 4).bind fun o10 =>
    (F_M_finds t (-1000007) w).bind fun p9 =>
    some (p9.1, p9.2)
def F_M_sheet_0 (t : Nat) (x1 : Int32) (x2 : Int32) (x3 : Int32) (w : A_W) : Option (Int32 × A_W) :=
  (F_M_isSheet x1 w).bind fun p1 =>
  if p1.1 = 0 then
    F_M_sheet_29 t p1.2
  else
    if x2 = 0 then
      F_M_sheet_36 t x1 x2 x3 p1.2
    else
      if x2 = 8 then
        F_M_sheet_36 t x1 x2 x3 p1.2
      else
        if x2 = 16 then
          F_M_sheet_36 t x1 x2 x3 p1.2
        else
          if x2 = 32 then
            F_M_sheet_36 t x1 x2 x3 p1.2
          else
            F_M_sheet_29 t p1.2
set_option maxHeartbeats 4000000 in
set_option maxRecDepth 100000 in
theorem s_M_sheet_29 {G : Gx} {X : Cx} {res : Int32 × A_W} (K : Ok G X 4 c_M_sheet 5 (some .int) rm_M_sheet) (hQ : QQ G X (some (.int res.1)) res.2 0 0) (t : Nat) (w : A_W) (h : F_M_sheet_29 t w = some res) : Sm G X w 0 0 [some (.ref t), none, none, none, none] [] 29 := by
  unfold F_M_sheet_29 at h
  refine Sm_run K ek_M_sheet 14 2 rfl ?_
  obtain ⟨o2, e_o2, h⟩ := Option.bind_eq_some_iff.mp h
  obtain ⟨p1, e_p1, h⟩ := Option.bind_eq_some_iff.mp h
  refine Sm_callV K (eok_i (eo ek_M_sheet (i := 16) rfl) rfl) cy_M_finds im_M_finds se_M_finds (lgm 826 (by decide +kernel) rfl) ⟨Nat.le_of_ble_eq_true rfl, Nat.le_of_ble_eq_true rfl⟩ (as := [.int (-1000001)]) (b := t) (st := []) (ob_e e_o2) (by decide) rfl rfl rfl rfl (Nat.le_of_ble_eq_true rfl) ⟨Nat.le_of_ble_eq_true rfl, Nat.le_of_ble_eq_true rfl⟩ (cn_M_finds e_p1) ?_
  refine Sm_eq (st1 := .int p1.1 :: []) (nc1 := 0) (ns1 := 0) rfl rfl rfl ?_
  obtain rfl := Option.some.inj h
  exact Sm_reti K hQ (eok_i (eo ek_M_sheet (i := 17) rfl) rfl)
set_option maxHeartbeats 4000000 in
set_option maxRecDepth 100000 in
theorem s_M_sheet_85 {G : Gx} {X : Cx} {res : Int32 × A_W} (K : Ok G X 4 c_M_sheet 5 (some .int) rm_M_sheet) (hQ : QQ G X (some (.int res.1)) res.2 0 0) : ∀ (n : Nat) (t : Nat) (x1 : Int32) (x4 : Int32) (w : A_W), F_M_sheet_85 n t x1 x4 w = some res → Sm G X w 0 0 [some (.ref t), some (.int x1), none, none, some (.int x4)] [] 85 := by
  intro n
  induction n with
  | zero => intro t x1 x4 w h; cases h
  | succ n ih =>
    intro t x1 x4 w h
    rw [F_M_sheet_85] at h
    refine Sm_run K ek_M_sheet 47 2 rfl ?_
    refine Sm_ic_ge K (eo ek_M_sheet (i := 49) rfl) (fun c1 => ?_) (fun c1 => ?_)
    · rw [if_pos c1] at h
      refine Sm_run K ek_M_sheet 61 1 rfl ?_
      obtain ⟨a2, e_a2, h⟩ := Option.bind_eq_some_iff.mp h
      refine Sm_gr K (eo ek_M_sheet (i := 62) rfl) e_a2 ?_
      refine Sm_run K ek_M_sheet 63 1 rfl ?_
      obtain ⟨v3, e_v3, h⟩ := Option.bind_eq_some_iff.mp h
      refine Sm_rd K (eok_i (eo ek_M_sheet (i := 64) rfl) rfl) e_v3 ?_
      obtain rfl := Option.some.inj h
      exact Sm_reti K hQ (eok_i (eo ek_M_sheet (i := 65) rfl) rfl)
    · rw [if_neg c1] at h
      refine Sm_run K ek_M_sheet 50 1 rfl ?_
      obtain ⟨a4, e_a4, h⟩ := Option.bind_eq_some_iff.mp h
      refine Sm_gr K (eo ek_M_sheet (i := 51) rfl) e_a4 ?_
      refine Sm_run K ek_M_sheet 52 6 rfl ?_
      obtain ⟨w5, e_w5, h⟩ := Option.bind_eq_some_iff.mp h
      refine Sm_wr K (eok_i (eo ek_M_sheet (i := 58) rfl) rfl) e_w5 ?_
      refine Sm_run K ek_M_sheet 59 2 rfl ?_
      exact Sm_le (leR_s (leR_s (leR_n (leR_n (leR_s leR_nil))))) (ih _ _ _ _ h)
set_option maxHeartbeats 4000000 in
set_option maxRecDepth 100000 in
theorem s_M_sheet_81 {G : Gx} {X : Cx} {res : Int32 × A_W} (K : Ok G X 4 c_M_sheet 5 (some .int) rm_M_sheet) (hQ : QQ G X (some (.int res.1)) res.2 0 0) (t : Nat) (x1 : Int32) (y0 : Nat) (y1 : Int32) (y2 : Int32) (w : A_W) (h : F_M_sheet_81 t x1 y0 y1 y2 w = some res) : Sm G X w 0 0 [some (.ref t), some (.int x1), none, none, none] [.int y2, .int y1, .ref y0] 81 := by
  unfold F_M_sheet_81 at h
  obtain ⟨w1, e_w1, h⟩ := Option.bind_eq_some_iff.mp h
  refine Sm_wr K (eok_i (eo ek_M_sheet (i := 44) rfl) rfl) e_w1 ?_
  refine Sm_run K ek_M_sheet 45 2 rfl ?_
  exact Sm_le (leR_s (leR_s (leR_n (leR_n (leR_s leR_nil))))) (s_M_sheet_85 K hQ FU _ _ _ _ h)
set_option maxHeartbeats 4000000 in
set_option maxRecDepth 100000 in
theorem s_M_sheet_36 {G : Gx} {X : Cx} {res : Int32 × A_W} (K : Ok G X 4 c_M_sheet 5 (some .int) rm_M_sheet) (hQ : QQ G X (some (.int res.1)) res.2 0 0) (t : Nat) (x1 : Int32) (x2 : Int32) (x3 : Int32) (w : A_W) (h : F_M_sheet_36 t x1 x2 x3 w = some res) : Sm G X w 0 0 [some (.ref t), some (.int x1), some (.int x2), some (.int x3), none] [] 36 := by
  unfold F_M_sheet_36 at h
  refine Sm_run K ek_M_sheet 18 1 rfl ?_
  refine Sm_if_ge K (eo ek_M_sheet (i := 19) rfl) (fun c1 => ?_) (fun c1 => ?_)
  · rw [if_pos c1] at h
    refine Sm_run K ek_M_sheet 24 2 rfl ?_
    refine Sm_ic_le K (eo ek_M_sheet (i := 26) rfl) (fun c2 => ?_) (fun c2 => ?_)
    · rw [if_pos c2] at h
      refine Sm_run K ek_M_sheet 31 1 rfl ?_
      obtain ⟨a3, e_a3, h⟩ := Option.bind_eq_some_iff.mp h
      refine Sm_gr K (eo ek_M_sheet (i := 32) rfl) e_a3 ?_
      refine Sm_run K ek_M_sheet 33 2 rfl ?_
      obtain ⟨w4, e_w4, h⟩ := Option.bind_eq_some_iff.mp h
      refine Sm_wr K (eok_i (eo ek_M_sheet (i := 35) rfl) rfl) e_w4 ?_
      refine Sm_run K ek_M_sheet 36 1 rfl ?_
      obtain ⟨a5, e_a5, h⟩ := Option.bind_eq_some_iff.mp h
      refine Sm_gr K (eo ek_M_sheet (i := 37) rfl) e_a5 ?_
      refine Sm_run K ek_M_sheet 38 2 rfl ?_
      refine Sm_if_ne K (eo ek_M_sheet (i := 40) rfl) (fun c6 => ?_) (fun c6 => ?_)
      · rw [if_neg c6] at h
        refine Sm_run K ek_M_sheet 43 1 rfl ?_
        exact Sm_le (leR_s (leR_s (leR_n (leR_n (leR_n leR_nil))))) (s_M_sheet_81 K hQ _ _ _ _ _ _ h)
      · rw [if_pos c6] at h
        refine Sm_run K ek_M_sheet 41 2 rfl ?_
        exact Sm_le (leR_s (leR_s (leR_n (leR_n (leR_n leR_nil))))) (s_M_sheet_81 K hQ _ _ _ _ _ _ h)
    · rw [if_neg c2] at h
      refine Sm_run K ek_M_sheet 27 2 rfl ?_
      obtain ⟨o8, e_o8, h⟩ := Option.bind_eq_some_iff.mp h
      obtain ⟨p7, e_p7, h⟩ := Option.bind_eq_some_iff.mp h
      refine Sm_callV K (eok_i (eo ek_M_sheet (i := 29) rfl) rfl) cy_M_finds im_M_finds se_M_finds (lgm 826 (by decide +kernel) rfl) ⟨Nat.le_of_ble_eq_true rfl, Nat.le_of_ble_eq_true rfl⟩ (as := [.int (-1000001)]) (b := t) (st := []) (ob_e e_o8) (by decide) rfl rfl rfl rfl (Nat.le_of_ble_eq_true rfl) ⟨Nat.le_of_ble_eq_true rfl, Nat.le_of_ble_eq_true rfl⟩ (cn_M_finds e_p7) ?_
      refine Sm_eq (st1 := .int p7.1 :: []) (nc1 := 0) (ns1 := 0) rfl rfl rfl ?_
      obtain rfl := Option.some.inj h
      exact Sm_reti K hQ (eok_i (eo ek_M_sheet (i := 30) rfl) rfl)
  · rw [if_neg c1] at h
    refine Sm_run K ek_M_sheet 20 2 rfl ?_
    obtain ⟨o10, e_o10, h⟩ := Option.bind_eq_some_iff.mp h
    obtain ⟨p9, e_p9, h⟩ := Option.bind_eq_some_iff.mp h
    refine Sm_callV K (eok_i (eo ek_M_sheet (i := 22) rfl) rfl) cy_M_finds im_M_finds se_M_finds (lgm 826 (by decide +kernel) rfl) ⟨Nat.le_of_ble_eq_true rfl, Nat.le_of_ble_eq_true rfl⟩ (as := [.int (-1000007)]) (b := t) (st := []) (ob_e e_o10) (by decide) rfl rfl rfl rfl (Nat.le_of_ble_eq_true rfl) ⟨Nat.le_of_ble_eq_true rfl, Nat.le_of_ble_eq_true rfl⟩ (cn_M_finds e_p9) ?_
    refine Sm_eq (st1 := .int p9.1 :: []) (nc1 := 0) (ns1 := 0) rfl rfl rfl ?_
    obtain rfl := Option.some.inj h
    exact Sm_reti K hQ (eok_i (eo ek_M_sheet (i := 23) rfl) rfl)
set_option maxHeartbeats 4000000 in
set_option maxRecDepth 100000 in
theorem s_M_sheet_0 {G : Gx} {X : Cx} {res : Int32 × A_W} (K : Ok G X 4 c_M_sheet 5 (some .int) rm_M_sheet) (hQ : QQ G X (some (.int res.1)) res.2 0 0) (t : Nat) (x1 : Int32) (x2 : Int32) (x3 : Int32) (w : A_W) (h : F_M_sheet_0 t x1 x2 x3 w = some res) : Sm G X w 0 0 [some (.ref t), some (.int x1), some (.int x2), some (.int x3), none] [] 0 := by
  unfold F_M_sheet_0 at h
  refine Sm_run K ek_M_sheet 0 1 rfl ?_
  obtain ⟨p1, e_p1, h⟩ := Option.bind_eq_some_iff.mp h
  refine Sm_callS K (eok_i (eo ek_M_sheet (i := 1) rfl) rfl) cy_M_isSheet st_M_isSheet (lgm 1062 (by decide +kernel) rfl) ⟨Nat.le_of_ble_eq_true rfl, Nat.le_of_ble_eq_true rfl⟩ (as := [.int x1]) (st := []) rfl rfl rfl (Nat.le_of_ble_eq_true rfl) ⟨Nat.le_of_ble_eq_true rfl, Nat.le_of_ble_eq_true rfl⟩ (cn_M_isSheet e_p1) ?_
  refine Sm_eq (st1 := .int p1.1 :: []) (nc1 := 0) (ns1 := 0) rfl rfl rfl ?_
  refine Sm_if_eq K (eo ek_M_sheet (i := 2) rfl) (fun c2 => ?_) (fun c2 => ?_)
  · rw [if_pos c2] at h
    exact Sm_le (leR_s (leR_n (leR_n (leR_n (leR_n leR_nil))))) (s_M_sheet_29 K hQ _ _ h)
  · rw [if_neg c2] at h
    refine Sm_run K ek_M_sheet 3 1 rfl ?_
    refine Sm_if_eq K (eo ek_M_sheet (i := 4) rfl) (fun c3 => ?_) (fun c3 => ?_)
    · rw [if_pos c3] at h
      exact Sm_le (leR_s (leR_s (leR_s (leR_s (leR_n leR_nil))))) (s_M_sheet_36 K hQ _ _ _ _ _ h)
    · rw [if_neg c3] at h
      refine Sm_run K ek_M_sheet 5 2 rfl ?_
      refine Sm_ic_eq K (eo ek_M_sheet (i := 7) rfl) (fun c4 => ?_) (fun c4 => ?_)
      · rw [if_pos c4] at h
        exact Sm_le (leR_s (leR_s (leR_s (leR_s (leR_n leR_nil))))) (s_M_sheet_36 K hQ _ _ _ _ _ h)
      · rw [if_neg c4] at h
        refine Sm_run K ek_M_sheet 8 2 rfl ?_
        refine Sm_ic_eq K (eo ek_M_sheet (i := 10) rfl) (fun c5 => ?_) (fun c5 => ?_)
        · rw [if_pos c5] at h
          exact Sm_le (leR_s (leR_s (leR_s (leR_s (leR_n leR_nil))))) (s_M_sheet_36 K hQ _ _ _ _ _ h)
        · rw [if_neg c5] at h
          refine Sm_run K ek_M_sheet 11 2 rfl ?_
          refine Sm_ic_eq K (eo ek_M_sheet (i := 13) rfl) (fun c6 => ?_) (fun c6 => ?_)
          · rw [if_pos c6] at h
            exact Sm_le (leR_s (leR_s (leR_s (leR_s (leR_n leR_nil))))) (s_M_sheet_36 K hQ _ _ _ _ _ h)
          · rw [if_neg c6] at h
            exact Sm_le (leR_s (leR_n (leR_n (leR_n (leR_n leR_nil))))) (s_M_sheet_29 K hQ _ _ h)
def F_M_sheet (t : Nat) (x1 : Int32) (x2 : Int32) (x3 : Int32) (w : A_W) : Option (Int32 × A_W) := F_M_sheet_0 t x1 x2 x3 w
theorem cn_M_sheet {G : Gx} {t : Nat} {x1 : Int32} {x2 : Int32} {x3 : Int32} {w : A_W} {res : Int32 × A_W} (h : F_M_sheet t x1 x2 x3 w = some res) : Cn G y_M_sheet c_M_sheet 5 (some .int) rm_M_sheet [.ref t, .int x1, .int x2, .int x3] w (some (.int res.1)) res.2 :=
  Cn_of (own := 4) cy_M_sheet rfl rfl (Nat.le_of_ble_eq_true rfl) rfl (fun X K _ hQ => Sm_le (leR_s (leR_s (leR_s (leR_s (leR_n leR_nil))))) (s_M_sheet_0 K hQ _ _ _ _ _ h))
/-! EveningCloakModel.write(III)I -/
abbrev c_M_write : ByteArray := prog_6_method_92_code
def y_M_write : MethodName := ⟨"EveningCloakModel", "write", "(III)I"⟩
def rm_M_write : Room := { frames := 3, cells := 0, slots := 0, locals := 63 }
theorem cy_M_write : Cy y_M_write c_M_write 5 (some .int) 3 := ⟨lgm 1175 (by decide +kernel) rfl, lgm 73 (by decide +kernel) rfl, by decide +kernel, by decide +kernel⟩
theorem im_M_write : Cond.instanceMethod y_M_write ∈ lg := lgm 1173 (by decide +kernel) rfl
theorem se_M_write : Cond.selects y_M_write.cls y_M_write y_M_write ∈ lg := lgm 1174 (by decide +kernel) rfl
def e_M_write : List Ent := [
  (0, .aload_n 0, 1, 1, .null, 0, 0, 0),
  (1, .iload_n 1, 1, 2, .null, 0, 0, 0),
  (2, .invokevirtual 169, 3, 5, .null, 0, 0, 0),
  (5, .istore 4, 2, 7, .null, 0, 0, 0),
  (7, .iload 4, 2, 9, .null, 0, 0, 0),
  (9, .ifCond .ne 24, 3, 33, .null, 0, 0, 0),
  (12, .iload_n 2, 1, 13, .null, 0, 0, 0),
  (13, .iconst 0, 1, 14, .int 0, 0, 0, 0),
  (14, .aload_n 0, 1, 15, .null, 0, 0, 0),
  (15, .getfield 25, 3, 18, .null, 4, 6, 768),
  (18, .iload_n 1, 1, 19, .null, 0, 0, 0),
  (19, .iaload, 1, 20, .null, 0, 0, 0),
  (20, .iconst 1, 1, 21, .int 1, 0, 0, 0),
  (21, .isub, 1, 22, .null, 0, 0, 0),
  (22, .invokestatic 40, 3, 25, .null, 0, 0, 0),
  (25, .ifCond .ne 8, 3, 33, .null, 0, 0, 0),
  (28, .ldc 34, 2, 30, .int (-1000001), 0, 0, 825),
  (30, .goto 5, 3, 35, .null, 0, 0, 0),
  (33, .iload 4, 2, 35, .null, 0, 0, 0),
  (35, .istore 4, 2, 37, .null, 0, 0, 0),
  (37, .iload 4, 2, 39, .null, 0, 0, 0),
  (39, .ifCond .eq 10, 3, 49, .null, 0, 0, 0),
  (42, .aload_n 0, 1, 43, .null, 0, 0, 0),
  (43, .iload 4, 2, 45, .null, 0, 0, 0),
  (45, .invokevirtual 36, 3, 48, .null, 0, 0, 0),
  (48, .ireturn, 1, 49, .null, 0, 0, 0),
  (49, .aload_n 0, 1, 50, .null, 0, 0, 0),
  (50, .getfield 28, 3, 53, .null, 4, 7, 769),
  (53, .bipush 40, 2, 55, .int 40, 0, 0, 0),
  (55, .iload_n 1, 1, 56, .null, 0, 0, 0),
  (56, .imul, 1, 57, .null, 0, 0, 0),
  (57, .iload_n 2, 1, 58, .null, 0, 0, 0),
  (58, .iadd, 1, 59, .null, 0, 0, 0),
  (59, .aload_n 0, 1, 60, .null, 0, 0, 0),
  (60, .getfield 22, 3, 63, .null, 4, 5, 767),
  (63, .iload_n 1, 1, 64, .null, 0, 0, 0),
  (64, .iaload, 1, 65, .null, 0, 0, 0),
  (65, .bipush 8, 2, 67, .int 8, 0, 0, 0),
  (67, .if_icmp .ne 8, 3, 75, .null, 0, 0, 0),
  (70, .iload_n 3, 1, 71, .null, 0, 0, 0),
  (71, .i2b, 1, 72, .null, 0, 0, 0),
  (72, .goto 20, 3, 92, .null, 0, 0, 0),
  (75, .aload_n 0, 1, 76, .null, 0, 0, 0),
  (76, .getfield 22, 3, 79, .null, 4, 5, 767),
  (79, .iload_n 1, 1, 80, .null, 0, 0, 0),
  (80, .iaload, 1, 81, .null, 0, 0, 0),
  (81, .bipush 16, 2, 83, .int 16, 0, 0, 0),
  (83, .if_icmp .ne 8, 3, 91, .null, 0, 0, 0),
  (86, .iload_n 3, 1, 87, .null, 0, 0, 0),
  (87, .i2s, 1, 88, .null, 0, 0, 0),
  (88, .goto 4, 3, 92, .null, 0, 0, 0),
  (91, .iload_n 3, 1, 92, .null, 0, 0, 0),
  (92, .iastore, 1, 93, .null, 0, 0, 0),
  (93, .iconst 1, 1, 94, .int 1, 0, 0, 0),
  (94, .ireturn, 1, 95, .null, 0, 0, 0)]
set_option maxRecDepth 100000 in
theorem ek_M_write : e_M_write.all (eok 4 c_M_write) = true := by decide +kernel
def F_M_write_92 (y0 : Nat) (y1 : Int32) (y2 : Int32) (w : A_W) : Option (Int32 × A_W) :=
  (wr w y0 y1 y2).bind fun w1 =>
  some (1, w1)
def F_M_write_35 (t : Nat) (x1 : Int32) (x2 : Int32) (x3 : Int32) (y0 : Int32) (w : A_W) : Option (Int32 × A_W) :=
  if y0 = 0 then
    (gr w t 4 7).bind fun a2 =>
    (gr w t 4 5).bind fun a3 =>
    (rd w a3 x1).bind fun v4 =>
    if v4 = 8 then
      F_M_write_92 a2 ((40 * x1) + x2) ((Int32.toInt8 x3).toInt32) w
    else
      (gr w t 4 5).bind fun a6 =>
      (rd w a6 x1).bind fun v7 =>
      if v7 = 16 then
        F_M_write_92 a2 ((40 * x1) + x2) ((Int32.toInt16 x3).toInt32) w
      else
        F_M_write_92 a2 ((40 * x1) + x2) x3 w
  else
    (ob w t 4).bind fun o10 =>
    (F_M_finds t y0 w).bind fun p9 =>
    some (p9.1, p9.2)
def F_M_write_33 (t : Nat) (x1 : Int32) (x2 : Int32) (x3 : Int32) (x4 : Int32) (w : A_W) : Option (Int32 × A_W) :=
  F_M_write_35 t x1 x2 x3 x4 w
def F_M_write_0 (t : Nat) (x1 : Int32) (x2 : Int32) (x3 : Int32) (w : A_W) : Option (Int32 × A_W) :=
  (ob w t 4).bind fun o2 =>
  (F_M_notThere t x1 w).bind fun p1 =>
  if p1.1 = 0 then
    (gr p1.2 t 4 6).bind fun a4 =>
    (rd p1.2 a4 x1).bind fun v5 =>
    (F_M_in x2 0 (v5 - 1) p1.2).bind fun p6 =>
    if p6.1 = 0 then
      F_M_write_35 t x1 x2 x3 (-1000001) p6.2
    else
      F_M_write_33 t x1 x2 x3 p1.1 p6.2
  else
    F_M_write_33 t x1 x2 x3 p1.1 p1.2
set_option maxHeartbeats 4000000 in
set_option maxRecDepth 100000 in
theorem s_M_write_92 {G : Gx} {X : Cx} {res : Int32 × A_W} (K : Ok G X 4 c_M_write 5 (some .int) rm_M_write) (hQ : QQ G X (some (.int res.1)) res.2 0 0) (y0 : Nat) (y1 : Int32) (y2 : Int32) (w : A_W) (h : F_M_write_92 y0 y1 y2 w = some res) : Sm G X w 0 0 [none, none, none, none, none] [.int y2, .int y1, .ref y0] 92 := by
  unfold F_M_write_92 at h
  obtain ⟨w1, e_w1, h⟩ := Option.bind_eq_some_iff.mp h
  refine Sm_wr K (eok_i (eo ek_M_write (i := 52) rfl) rfl) e_w1 ?_
  refine Sm_run K ek_M_write 53 1 rfl ?_
  obtain rfl := Option.some.inj h
  exact Sm_reti K hQ (eok_i (eo ek_M_write (i := 54) rfl) rfl)
set_option maxHeartbeats 4000000 in
set_option maxRecDepth 100000 in
theorem s_M_write_35 {G : Gx} {X : Cx} {res : Int32 × A_W} (K : Ok G X 4 c_M_write 5 (some .int) rm_M_write) (hQ : QQ G X (some (.int res.1)) res.2 0 0) (t : Nat) (x1 : Int32) (x2 : Int32) (x3 : Int32) (y0 : Int32) (w : A_W) (h : F_M_write_35 t x1 x2 x3 y0 w = some res) : Sm G X w 0 0 [some (.ref t), some (.int x1), some (.int x2), some (.int x3), none] [.int y0] 35 := by
  unfold F_M_write_35 at h
  refine Sm_run K ek_M_write 19 2 rfl ?_
  refine Sm_if_eq K (eo ek_M_write (i := 21) rfl) (fun c1 => ?_) (fun c1 => ?_)
  · rw [if_pos c1] at h
    refine Sm_run K ek_M_write 26 1 rfl ?_
    obtain ⟨a2, e_a2, h⟩ := Option.bind_eq_some_iff.mp h
    refine Sm_gr K (eo ek_M_write (i := 27) rfl) e_a2 ?_
    refine Sm_run K ek_M_write 28 6 rfl ?_
    obtain ⟨a3, e_a3, h⟩ := Option.bind_eq_some_iff.mp h
    refine Sm_gr K (eo ek_M_write (i := 34) rfl) e_a3 ?_
    refine Sm_run K ek_M_write 35 1 rfl ?_
    obtain ⟨v4, e_v4, h⟩ := Option.bind_eq_some_iff.mp h
    refine Sm_rd K (eok_i (eo ek_M_write (i := 36) rfl) rfl) e_v4 ?_
    refine Sm_run K ek_M_write 37 1 rfl ?_
    refine Sm_ic_ne K (eo ek_M_write (i := 38) rfl) (fun c5 => ?_) (fun c5 => ?_)
    · rw [if_neg c5] at h
      refine Sm_run K ek_M_write 42 1 rfl ?_
      obtain ⟨a6, e_a6, h⟩ := Option.bind_eq_some_iff.mp h
      refine Sm_gr K (eo ek_M_write (i := 43) rfl) e_a6 ?_
      refine Sm_run K ek_M_write 44 1 rfl ?_
      obtain ⟨v7, e_v7, h⟩ := Option.bind_eq_some_iff.mp h
      refine Sm_rd K (eok_i (eo ek_M_write (i := 45) rfl) rfl) e_v7 ?_
      refine Sm_run K ek_M_write 46 1 rfl ?_
      refine Sm_ic_ne K (eo ek_M_write (i := 47) rfl) (fun c8 => ?_) (fun c8 => ?_)
      · rw [if_neg c8] at h
        refine Sm_run K ek_M_write 51 1 rfl ?_
        exact Sm_le (leR_n (leR_n (leR_n (leR_n (leR_n leR_nil))))) (s_M_write_92 K hQ _ _ _ _ h)
      · rw [if_pos c8] at h
        refine Sm_run K ek_M_write 48 3 rfl ?_
        exact Sm_le (leR_n (leR_n (leR_n (leR_n (leR_n leR_nil))))) (s_M_write_92 K hQ _ _ _ _ h)
    · rw [if_pos c5] at h
      refine Sm_run K ek_M_write 39 3 rfl ?_
      exact Sm_le (leR_n (leR_n (leR_n (leR_n (leR_n leR_nil))))) (s_M_write_92 K hQ _ _ _ _ h)
  · rw [if_neg c1] at h
    refine Sm_run K ek_M_write 22 2 rfl ?_
    obtain ⟨o10, e_o10, h⟩ := Option.bind_eq_some_iff.mp h
    obtain ⟨p9, e_p9, h⟩ := Option.bind_eq_some_iff.mp h
    refine Sm_callV K (eok_i (eo ek_M_write (i := 24) rfl) rfl) cy_M_finds im_M_finds se_M_finds (lgm 826 (by decide +kernel) rfl) ⟨Nat.le_of_ble_eq_true rfl, Nat.le_of_ble_eq_true rfl⟩ (as := [.int y0]) (b := t) (st := []) (ob_e e_o10) (by decide) rfl rfl rfl rfl (Nat.le_of_ble_eq_true rfl) ⟨Nat.le_of_ble_eq_true rfl, Nat.le_of_ble_eq_true rfl⟩ (cn_M_finds e_p9) ?_
    refine Sm_eq (st1 := .int p9.1 :: []) (nc1 := 0) (ns1 := 0) rfl rfl rfl ?_
    obtain rfl := Option.some.inj h
    exact Sm_reti K hQ (eok_i (eo ek_M_write (i := 25) rfl) rfl)
set_option maxHeartbeats 4000000 in
set_option maxRecDepth 100000 in
theorem s_M_write_33 {G : Gx} {X : Cx} {res : Int32 × A_W} (K : Ok G X 4 c_M_write 5 (some .int) rm_M_write) (hQ : QQ G X (some (.int res.1)) res.2 0 0) (t : Nat) (x1 : Int32) (x2 : Int32) (x3 : Int32) (x4 : Int32) (w : A_W) (h : F_M_write_33 t x1 x2 x3 x4 w = some res) : Sm G X w 0 0 [some (.ref t), some (.int x1), some (.int x2), some (.int x3), some (.int x4)] [] 33 := by
  unfold F_M_write_33 at h
  refine Sm_run K ek_M_write 18 1 rfl ?_
  exact Sm_le (leR_s (leR_s (leR_s (leR_s (leR_n leR_nil))))) (s_M_write_35 K hQ _ _ _ _ _ _ h)
set_option maxHeartbeats 4000000 in
set_option maxRecDepth 100000 in
theorem s_M_write_0 {G : Gx} {X : Cx} {res : Int32 × A_W} (K : Ok G X 4 c_M_write 5 (some .int) rm_M_write) (hQ : QQ G X (some (.int res.1)) res.2 0 0) (t : Nat) (x1 : Int32) (x2 : Int32) (x3 : Int32) (w : A_W) (h : F_M_write_0 t x1 x2 x3 w = some res) : Sm G X w 0 0 [some (.ref t), some (.int x1), some (.int x2), some (.int x3), none] [] 0 := by
  unfold F_M_write_0 at h
  refine Sm_run K ek_M_write 0 2 rfl ?_
  obtain ⟨o2, e_o2, h⟩ := Option.bind_eq_some_iff.mp h
  obtain ⟨p1, e_p1, h⟩ := Option.bind_eq_some_iff.mp h
  refine Sm_callV K (eok_i (eo ek_M_write (i := 2) rfl) rfl) cy_M_notThere im_M_notThere se_M_notThere (lgm 1058 (by decide +kernel) rfl) ⟨Nat.le_of_ble_eq_true rfl, Nat.le_of_ble_eq_true rfl⟩ (as := [.int x1]) (b := t) (st := []) (ob_e e_o2) (by decide) rfl rfl rfl rfl (Nat.le_of_ble_eq_true rfl) ⟨Nat.le_of_ble_eq_true rfl, Nat.le_of_ble_eq_true rfl⟩ (cn_M_notThere e_p1) ?_
  refine Sm_eq (st1 := .int p1.1 :: []) (nc1 := 0) (ns1 := 0) rfl rfl rfl ?_
  refine Sm_run K ek_M_write 3 2 rfl ?_
  refine Sm_if_ne K (eo ek_M_write (i := 5) rfl) (fun c3 => ?_) (fun c3 => ?_)
  · rw [if_neg c3] at h
    exact Sm_le (leR_s (leR_s (leR_s (leR_s (leR_s leR_nil))))) (s_M_write_33 K hQ _ _ _ _ _ _ h)
  · rw [if_pos c3] at h
    refine Sm_run K ek_M_write 6 3 rfl ?_
    obtain ⟨a4, e_a4, h⟩ := Option.bind_eq_some_iff.mp h
    refine Sm_gr K (eo ek_M_write (i := 9) rfl) e_a4 ?_
    refine Sm_run K ek_M_write 10 1 rfl ?_
    obtain ⟨v5, e_v5, h⟩ := Option.bind_eq_some_iff.mp h
    refine Sm_rd K (eok_i (eo ek_M_write (i := 11) rfl) rfl) e_v5 ?_
    refine Sm_run K ek_M_write 12 2 rfl ?_
    obtain ⟨p6, e_p6, h⟩ := Option.bind_eq_some_iff.mp h
    refine Sm_callS K (eok_i (eo ek_M_write (i := 14) rfl) rfl) cy_M_in st_M_in (lgm 815 (by decide +kernel) rfl) ⟨Nat.le_of_ble_eq_true rfl, Nat.le_of_ble_eq_true rfl⟩ (as := [.int x2, .int 0, .int (v5 - 1)]) (st := []) rfl rfl rfl (Nat.le_of_ble_eq_true rfl) ⟨Nat.le_of_ble_eq_true rfl, Nat.le_of_ble_eq_true rfl⟩ (cn_M_in e_p6) ?_
    refine Sm_eq (st1 := .int p6.1 :: []) (nc1 := 0) (ns1 := 0) rfl rfl rfl ?_
    refine Sm_if_ne K (eo ek_M_write (i := 15) rfl) (fun c7 => ?_) (fun c7 => ?_)
    · rw [if_neg c7] at h
      exact Sm_le (leR_s (leR_s (leR_s (leR_s (leR_s leR_nil))))) (s_M_write_33 K hQ _ _ _ _ _ _ h)
    · rw [if_pos c7] at h
      refine Sm_run K ek_M_write 16 2 rfl ?_
      exact Sm_le (leR_s (leR_s (leR_s (leR_s (leR_n leR_nil))))) (s_M_write_35 K hQ _ _ _ _ _ _ h)
def F_M_write (t : Nat) (x1 : Int32) (x2 : Int32) (x3 : Int32) (w : A_W) : Option (Int32 × A_W) := F_M_write_0 t x1 x2 x3 w
theorem cn_M_write {G : Gx} {t : Nat} {x1 : Int32} {x2 : Int32} {x3 : Int32} {w : A_W} {res : Int32 × A_W} (h : F_M_write t x1 x2 x3 w = some res) : Cn G y_M_write c_M_write 5 (some .int) rm_M_write [.ref t, .int x1, .int x2, .int x3] w (some (.int res.1)) res.2 :=
  Cn_of (own := 4) cy_M_write rfl rfl (Nat.le_of_ble_eq_true rfl) rfl (fun X K _ hQ => Sm_le (leR_s (leR_s (leR_s (leR_s (leR_n leR_nil))))) (s_M_write_0 K hQ _ _ _ _ _ h))
/-! EveningCloakModel.notCopied(IIIII)I -/
abbrev c_M_notCopied : ByteArray := prog_6_method_93_code
def y_M_notCopied : MethodName := ⟨"EveningCloakModel", "notCopied", "(IIIII)I"⟩
def rm_M_notCopied : Room := { frames := 2, cells := 0, slots := 0, locals := 42 }
theorem cy_M_notCopied : Cy y_M_notCopied c_M_notCopied 7 (some .int) 5 := ⟨lgm 1183 (by decide +kernel) rfl, lgm 73 (by decide +kernel) rfl, by decide +kernel, by decide +kernel⟩
theorem im_M_notCopied : Cond.instanceMethod y_M_notCopied ∈ lg := lgm 1182 (by decide +kernel) rfl
theorem se_M_notCopied : Cond.selects y_M_notCopied.cls y_M_notCopied y_M_notCopied ∈ lg := lgm 65 (by decide +kernel) rfl
def e_M_notCopied : List Ent := [
  (0, .iload_n 1, 1, 1, .null, 0, 0, 0),
  (1, .invokestatic 165, 3, 4, .null, 0, 0, 0),
  (4, .ifCond .eq 10, 3, 14, .null, 0, 0, 0),
  (7, .iload_n 3, 1, 8, .null, 0, 0, 0),
  (8, .invokestatic 165, 3, 11, .null, 0, 0, 0),
  (11, .ifCond .ne 6, 3, 17, .null, 0, 0, 0),
  (14, .ldc 34, 2, 16, .int (-1000001), 0, 0, 825),
  (16, .ireturn, 1, 17, .null, 0, 0, 0),
  (17, .aload_n 0, 1, 18, .null, 0, 0, 0),
  (18, .getfield 22, 3, 21, .null, 4, 5, 767),
  (21, .iload_n 1, 1, 22, .null, 0, 0, 0),
  (22, .iaload, 1, 23, .null, 0, 0, 0),
  (23, .ifCond .eq 12, 3, 35, .null, 0, 0, 0),
  (26, .aload_n 0, 1, 27, .null, 0, 0, 0),
  (27, .getfield 22, 3, 30, .null, 4, 5, 767),
  (30, .iload_n 3, 1, 31, .null, 0, 0, 0),
  (31, .iaload, 1, 32, .null, 0, 0, 0),
  (32, .ifCond .ne 6, 3, 38, .null, 0, 0, 0),
  (35, .ldc 168, 2, 37, .int (-1000006), 0, 0, 1065),
  (37, .ireturn, 1, 38, .null, 0, 0, 0),
  (38, .aload_n 0, 1, 39, .null, 0, 0, 0),
  (39, .getfield 22, 3, 42, .null, 4, 5, 767),
  (42, .iload_n 1, 1, 43, .null, 0, 0, 0),
  (43, .iaload, 1, 44, .null, 0, 0, 0),
  (44, .aload_n 0, 1, 45, .null, 0, 0, 0),
  (45, .getfield 22, 3, 48, .null, 4, 5, 767),
  (48, .iload_n 3, 1, 49, .null, 0, 0, 0),
  (49, .iaload, 1, 50, .null, 0, 0, 0),
  (50, .if_icmp .eq 6, 3, 56, .null, 0, 0, 0),
  (53, .ldc 248, 2, 55, .int (-1000003), 0, 0, 1166),
  (55, .ireturn, 1, 56, .null, 0, 0, 0),
  (56, .iload 5, 2, 58, .null, 0, 0, 0),
  (58, .ifCond .lt 43, 3, 101, .null, 0, 0, 0),
  (61, .iload_n 2, 1, 62, .null, 0, 0, 0),
  (62, .ifCond .lt 39, 3, 101, .null, 0, 0, 0),
  (65, .iload 4, 2, 67, .null, 0, 0, 0),
  (67, .ifCond .lt 34, 3, 101, .null, 0, 0, 0),
  (70, .iload 5, 2, 72, .null, 0, 0, 0),
  (72, .aload_n 0, 1, 73, .null, 0, 0, 0),
  (73, .getfield 25, 3, 76, .null, 4, 6, 768),
  (76, .iload_n 1, 1, 77, .null, 0, 0, 0),
  (77, .iaload, 1, 78, .null, 0, 0, 0),
  (78, .iload_n 2, 1, 79, .null, 0, 0, 0),
  (79, .isub, 1, 80, .null, 0, 0, 0),
  (80, .if_icmp .gt 21, 3, 101, .null, 0, 0, 0),
  (83, .iload 5, 2, 85, .null, 0, 0, 0),
  (85, .aload_n 0, 1, 86, .null, 0, 0, 0),
  (86, .getfield 25, 3, 89, .null, 4, 6, 768),
  (89, .iload_n 3, 1, 90, .null, 0, 0, 0),
  (90, .iaload, 1, 91, .null, 0, 0, 0),
  (91, .iload 4, 2, 93, .null, 0, 0, 0),
  (93, .isub, 1, 94, .null, 0, 0, 0),
  (94, .if_icmp .gt 7, 3, 101, .null, 0, 0, 0),
  (97, .iconst 1, 1, 98, .int 1, 0, 0, 0),
  (98, .goto 4, 3, 102, .null, 0, 0, 0),
  (101, .iconst 0, 1, 102, .int 0, 0, 0, 0),
  (102, .istore 6, 2, 104, .null, 0, 0, 0),
  (104, .iload 6, 2, 106, .null, 0, 0, 0),
  (106, .ifCond .eq 7, 3, 113, .null, 0, 0, 0),
  (109, .iconst 0, 1, 110, .int 0, 0, 0, 0),
  (110, .goto 5, 3, 115, .null, 0, 0, 0),
  (113, .ldc 34, 2, 115, .int (-1000001), 0, 0, 825),
  (115, .ireturn, 1, 116, .null, 0, 0, 0)]
set_option maxRecDepth 100000 in
theorem ek_M_notCopied : e_M_notCopied.all (eok 4 c_M_notCopied) = true := by decide +kernel
def F_M_notCopied_14 (w : A_W) : Option (Int32 × A_W) :=
  some ((-1000001), w)
def F_M_notCopied_35 (w : A_W) : Option (Int32 × A_W) :=
  some ((-1000006), w)
def F_M_notCopied_115 (y0 : Int32) (w : A_W) : Option (Int32 × A_W) :=
  some (y0, w)
def F_M_notCopied_102 (y0 : Int32) (w : A_W) : Option (Int32 × A_W) :=
  if y0 = 0 then
    F_M_notCopied_115 (-1000001) w
  else
    F_M_notCopied_115 0 w
def F_M_notCopied_101 (w : A_W) : Option (Int32 × A_W) :=
  F_M_notCopied_102 0 w
def F_M_notCopied_0 (t : Nat) (x1 : Int32) (x2 : Int32) (x3 : Int32) (x4 : Int32) (x5 : Int32) (w : A_W) : Option (Int32 × A_W) :=
  (F_M_isSheet x1 w).bind fun p1 =>
  if p1.1 = 0 then
    F_M_notCopied_14 p1.2
  else
    (F_M_isSheet x3 p1.2).bind fun p3 =>
    if p3.1 = 0 then
      F_M_notCopied_14 p3.2
    else
      (gr p3.2 t 4 5).bind fun a5 =>
      (rd p3.2 a5 x1).bind fun v6 =>
      if v6 = 0 then
        F_M_notCopied_35 p3.2
      else
        (gr p3.2 t 4 5).bind fun a8 =>
        (rd p3.2 a8 x3).bind fun v9 =>
        if v9 = 0 then
          F_M_notCopied_35 p3.2
        else
          (gr p3.2 t 4 5).bind fun a11 =>
          (rd p3.2 a11 x1).bind fun v12 =>
          (gr p3.2 t 4 5).bind fun a13 =>
          (rd p3.2 a13 x3).bind fun v14 =>
          if v12 = v14 then
            if x5 < 0 then
              F_M_notCopied_101 p3.2
            else
              if x2 < 0 then
                F_M_notCopied_101 p3.2
              else
                if x4 < 0 then
                  F_M_notCopied_101 p3.2
                else
                  (gr p3.2 t 4 6).bind fun a19 =>
                  (rd p3.2 a19 x1).bind fun v20 =>
                  if (v20 - x2) < x5 then
                    F_M_notCopied_101 p3.2
                  else
                    (gr p3.2 t 4 6).bind fun a22 =>
                    (rd p3.2 a22 x3).bind fun v23 =>
                    if (v23 - x4) < x5 then
                      F_M_notCopied_101 p3.2
                    else
                      F_M_notCopied_102 1 p3.2
          else
            some ((-1000003), p3.2)
set_option maxHeartbeats 4000000 in
set_option maxRecDepth 100000 in
theorem s_M_notCopied_14 {G : Gx} {X : Cx} {res : Int32 × A_W} (K : Ok G X 4 c_M_notCopied 7 (some .int) rm_M_notCopied) (hQ : QQ G X (some (.int res.1)) res.2 0 0) (w : A_W) (h : F_M_notCopied_14 w = some res) : Sm G X w 0 0 [none, none, none, none, none, none, none] [] 14 := by
  unfold F_M_notCopied_14 at h
  refine Sm_run K ek_M_notCopied 6 1 rfl ?_
  obtain rfl := Option.some.inj h
  exact Sm_reti K hQ (eok_i (eo ek_M_notCopied (i := 7) rfl) rfl)
set_option maxHeartbeats 4000000 in
set_option maxRecDepth 100000 in
theorem s_M_notCopied_35 {G : Gx} {X : Cx} {res : Int32 × A_W} (K : Ok G X 4 c_M_notCopied 7 (some .int) rm_M_notCopied) (hQ : QQ G X (some (.int res.1)) res.2 0 0) (w : A_W) (h : F_M_notCopied_35 w = some res) : Sm G X w 0 0 [none, none, none, none, none, none, none] [] 35 := by
  unfold F_M_notCopied_35 at h
  refine Sm_run K ek_M_notCopied 18 1 rfl ?_
  obtain rfl := Option.some.inj h
  exact Sm_reti K hQ (eok_i (eo ek_M_notCopied (i := 19) rfl) rfl)
set_option maxHeartbeats 4000000 in
set_option maxRecDepth 100000 in
theorem s_M_notCopied_115 {G : Gx} {X : Cx} {res : Int32 × A_W} (K : Ok G X 4 c_M_notCopied 7 (some .int) rm_M_notCopied) (hQ : QQ G X (some (.int res.1)) res.2 0 0) (y0 : Int32) (w : A_W) (h : F_M_notCopied_115 y0 w = some res) : Sm G X w 0 0 [none, none, none, none, none, none, none] [.int y0] 115 := by
  unfold F_M_notCopied_115 at h
  obtain rfl := Option.some.inj h
  exact Sm_reti K hQ (eok_i (eo ek_M_notCopied (i := 62) rfl) rfl)
set_option maxHeartbeats 4000000 in
set_option maxRecDepth 100000 in
theorem s_M_notCopied_102 {G : Gx} {X : Cx} {res : Int32 × A_W} (K : Ok G X 4 c_M_notCopied 7 (some .int) rm_M_notCopied) (hQ : QQ G X (some (.int res.1)) res.2 0 0) (y0 : Int32) (w : A_W) (h : F_M_notCopied_102 y0 w = some res) : Sm G X w 0 0 [none, none, none, none, none, none, none] [.int y0] 102 := by
  unfold F_M_notCopied_102 at h
  refine Sm_run K ek_M_notCopied 56 2 rfl ?_
  refine Sm_if_eq K (eo ek_M_notCopied (i := 58) rfl) (fun c1 => ?_) (fun c1 => ?_)
  · rw [if_pos c1] at h
    refine Sm_run K ek_M_notCopied 61 1 rfl ?_
    exact Sm_le (leR_n (leR_n (leR_n (leR_n (leR_n (leR_n (leR_n leR_nil))))))) (s_M_notCopied_115 K hQ _ _ h)
  · rw [if_neg c1] at h
    refine Sm_run K ek_M_notCopied 59 2 rfl ?_
    exact Sm_le (leR_n (leR_n (leR_n (leR_n (leR_n (leR_n (leR_n leR_nil))))))) (s_M_notCopied_115 K hQ _ _ h)
set_option maxHeartbeats 4000000 in
set_option maxRecDepth 100000 in
theorem s_M_notCopied_101 {G : Gx} {X : Cx} {res : Int32 × A_W} (K : Ok G X 4 c_M_notCopied 7 (some .int) rm_M_notCopied) (hQ : QQ G X (some (.int res.1)) res.2 0 0) (w : A_W) (h : F_M_notCopied_101 w = some res) : Sm G X w 0 0 [none, none, none, none, none, none, none] [] 101 := by
  unfold F_M_notCopied_101 at h
  refine Sm_run K ek_M_notCopied 55 1 rfl ?_
  exact Sm_le (leR_n (leR_n (leR_n (leR_n (leR_n (leR_n (leR_n leR_nil))))))) (s_M_notCopied_102 K hQ _ _ h)
set_option maxHeartbeats 4000000 in
set_option maxRecDepth 100000 in
theorem s_M_notCopied_0 {G : Gx} {X : Cx} {res : Int32 × A_W} (K : Ok G X 4 c_M_notCopied 7 (some .int) rm_M_notCopied) (hQ : QQ G X (some (.int res.1)) res.2 0 0) (t : Nat) (x1 : Int32) (x2 : Int32) (x3 : Int32) (x4 : Int32) (x5 : Int32) (w : A_W) (h : F_M_notCopied_0 t x1 x2 x3 x4 x5 w = some res) : Sm G X w 0 0 [some (.ref t), some (.int x1), some (.int x2), some (.int x3), some (.int x4), some (.int x5), none] [] 0 := by
  unfold F_M_notCopied_0 at h
  refine Sm_run K ek_M_notCopied 0 1 rfl ?_
  obtain ⟨p1, e_p1, h⟩ := Option.bind_eq_some_iff.mp h
  refine Sm_callS K (eok_i (eo ek_M_notCopied (i := 1) rfl) rfl) cy_M_isSheet st_M_isSheet (lgm 1062 (by decide +kernel) rfl) ⟨Nat.le_of_ble_eq_true rfl, Nat.le_of_ble_eq_true rfl⟩ (as := [.int x1]) (st := []) rfl rfl rfl (Nat.le_of_ble_eq_true rfl) ⟨Nat.le_of_ble_eq_true rfl, Nat.le_of_ble_eq_true rfl⟩ (cn_M_isSheet e_p1) ?_
  refine Sm_eq (st1 := .int p1.1 :: []) (nc1 := 0) (ns1 := 0) rfl rfl rfl ?_
  refine Sm_if_eq K (eo ek_M_notCopied (i := 2) rfl) (fun c2 => ?_) (fun c2 => ?_)
  · rw [if_pos c2] at h
    exact Sm_le (leR_n (leR_n (leR_n (leR_n (leR_n (leR_n (leR_n leR_nil))))))) (s_M_notCopied_14 K hQ _ h)
  · rw [if_neg c2] at h
    refine Sm_run K ek_M_notCopied 3 1 rfl ?_
    obtain ⟨p3, e_p3, h⟩ := Option.bind_eq_some_iff.mp h
    refine Sm_callS K (eok_i (eo ek_M_notCopied (i := 4) rfl) rfl) cy_M_isSheet st_M_isSheet (lgm 1062 (by decide +kernel) rfl) ⟨Nat.le_of_ble_eq_true rfl, Nat.le_of_ble_eq_true rfl⟩ (as := [.int x3]) (st := []) rfl rfl rfl (Nat.le_of_ble_eq_true rfl) ⟨Nat.le_of_ble_eq_true rfl, Nat.le_of_ble_eq_true rfl⟩ (cn_M_isSheet e_p3) ?_
    refine Sm_eq (st1 := .int p3.1 :: []) (nc1 := 0) (ns1 := 0) rfl rfl rfl ?_
    refine Sm_if_ne K (eo ek_M_notCopied (i := 5) rfl) (fun c4 => ?_) (fun c4 => ?_)
    · rw [if_neg c4] at h
      refine Sm_run K ek_M_notCopied 8 1 rfl ?_
      obtain ⟨a5, e_a5, h⟩ := Option.bind_eq_some_iff.mp h
      refine Sm_gr K (eo ek_M_notCopied (i := 9) rfl) e_a5 ?_
      refine Sm_run K ek_M_notCopied 10 1 rfl ?_
      obtain ⟨v6, e_v6, h⟩ := Option.bind_eq_some_iff.mp h
      refine Sm_rd K (eok_i (eo ek_M_notCopied (i := 11) rfl) rfl) e_v6 ?_
      refine Sm_if_eq K (eo ek_M_notCopied (i := 12) rfl) (fun c7 => ?_) (fun c7 => ?_)
      · rw [if_pos c7] at h
        exact Sm_le (leR_n (leR_n (leR_n (leR_n (leR_n (leR_n (leR_n leR_nil))))))) (s_M_notCopied_35 K hQ _ h)
      · rw [if_neg c7] at h
        refine Sm_run K ek_M_notCopied 13 1 rfl ?_
        obtain ⟨a8, e_a8, h⟩ := Option.bind_eq_some_iff.mp h
        refine Sm_gr K (eo ek_M_notCopied (i := 14) rfl) e_a8 ?_
        refine Sm_run K ek_M_notCopied 15 1 rfl ?_
        obtain ⟨v9, e_v9, h⟩ := Option.bind_eq_some_iff.mp h
        refine Sm_rd K (eok_i (eo ek_M_notCopied (i := 16) rfl) rfl) e_v9 ?_
        refine Sm_if_ne K (eo ek_M_notCopied (i := 17) rfl) (fun c10 => ?_) (fun c10 => ?_)
        · rw [if_neg c10] at h
          refine Sm_run K ek_M_notCopied 20 1 rfl ?_
          obtain ⟨a11, e_a11, h⟩ := Option.bind_eq_some_iff.mp h
          refine Sm_gr K (eo ek_M_notCopied (i := 21) rfl) e_a11 ?_
          refine Sm_run K ek_M_notCopied 22 1 rfl ?_
          obtain ⟨v12, e_v12, h⟩ := Option.bind_eq_some_iff.mp h
          refine Sm_rd K (eok_i (eo ek_M_notCopied (i := 23) rfl) rfl) e_v12 ?_
          refine Sm_run K ek_M_notCopied 24 1 rfl ?_
          obtain ⟨a13, e_a13, h⟩ := Option.bind_eq_some_iff.mp h
          refine Sm_gr K (eo ek_M_notCopied (i := 25) rfl) e_a13 ?_
          refine Sm_run K ek_M_notCopied 26 1 rfl ?_
          obtain ⟨v14, e_v14, h⟩ := Option.bind_eq_some_iff.mp h
          refine Sm_rd K (eok_i (eo ek_M_notCopied (i := 27) rfl) rfl) e_v14 ?_
          refine Sm_ic_eq K (eo ek_M_notCopied (i := 28) rfl) (fun c15 => ?_) (fun c15 => ?_)
          · rw [if_pos c15] at h
            refine Sm_run K ek_M_notCopied 31 1 rfl ?_
            refine Sm_if_lt K (eo ek_M_notCopied (i := 32) rfl) (fun c16 => ?_) (fun c16 => ?_)
            · rw [if_pos c16] at h
              exact Sm_le (leR_n (leR_n (leR_n (leR_n (leR_n (leR_n (leR_n leR_nil))))))) (s_M_notCopied_101 K hQ _ h)
            · rw [if_neg c16] at h
              refine Sm_run K ek_M_notCopied 33 1 rfl ?_
              refine Sm_if_lt K (eo ek_M_notCopied (i := 34) rfl) (fun c17 => ?_) (fun c17 => ?_)
              · rw [if_pos c17] at h
                exact Sm_le (leR_n (leR_n (leR_n (leR_n (leR_n (leR_n (leR_n leR_nil))))))) (s_M_notCopied_101 K hQ _ h)
              · rw [if_neg c17] at h
                refine Sm_run K ek_M_notCopied 35 1 rfl ?_
                refine Sm_if_lt K (eo ek_M_notCopied (i := 36) rfl) (fun c18 => ?_) (fun c18 => ?_)
                · rw [if_pos c18] at h
                  exact Sm_le (leR_n (leR_n (leR_n (leR_n (leR_n (leR_n (leR_n leR_nil))))))) (s_M_notCopied_101 K hQ _ h)
                · rw [if_neg c18] at h
                  refine Sm_run K ek_M_notCopied 37 2 rfl ?_
                  obtain ⟨a19, e_a19, h⟩ := Option.bind_eq_some_iff.mp h
                  refine Sm_gr K (eo ek_M_notCopied (i := 39) rfl) e_a19 ?_
                  refine Sm_run K ek_M_notCopied 40 1 rfl ?_
                  obtain ⟨v20, e_v20, h⟩ := Option.bind_eq_some_iff.mp h
                  refine Sm_rd K (eok_i (eo ek_M_notCopied (i := 41) rfl) rfl) e_v20 ?_
                  refine Sm_run K ek_M_notCopied 42 2 rfl ?_
                  refine Sm_ic_gt K (eo ek_M_notCopied (i := 44) rfl) (fun c21 => ?_) (fun c21 => ?_)
                  · rw [if_pos c21] at h
                    exact Sm_le (leR_n (leR_n (leR_n (leR_n (leR_n (leR_n (leR_n leR_nil))))))) (s_M_notCopied_101 K hQ _ h)
                  · rw [if_neg c21] at h
                    refine Sm_run K ek_M_notCopied 45 2 rfl ?_
                    obtain ⟨a22, e_a22, h⟩ := Option.bind_eq_some_iff.mp h
                    refine Sm_gr K (eo ek_M_notCopied (i := 47) rfl) e_a22 ?_
                    refine Sm_run K ek_M_notCopied 48 1 rfl ?_
                    obtain ⟨v23, e_v23, h⟩ := Option.bind_eq_some_iff.mp h
                    refine Sm_rd K (eok_i (eo ek_M_notCopied (i := 49) rfl) rfl) e_v23 ?_
                    refine Sm_run K ek_M_notCopied 50 2 rfl ?_
                    refine Sm_ic_gt K (eo ek_M_notCopied (i := 52) rfl) (fun c24 => ?_) (fun c24 => ?_)
                    · rw [if_pos c24] at h
                      exact Sm_le (leR_n (leR_n (leR_n (leR_n (leR_n (leR_n (leR_n leR_nil))))))) (s_M_notCopied_101 K hQ _ h)
                    · rw [if_neg c24] at h
                      refine Sm_run K ek_M_notCopied 53 2 rfl ?_
                      exact Sm_le (leR_n (leR_n (leR_n (leR_n (leR_n (leR_n (leR_n leR_nil))))))) (s_M_notCopied_102 K hQ _ _ h)
          · rw [if_neg c15] at h
            refine Sm_run K ek_M_notCopied 29 1 rfl ?_
            obtain rfl := Option.some.inj h
            exact Sm_reti K hQ (eok_i (eo ek_M_notCopied (i := 30) rfl) rfl)
        · rw [if_pos c10] at h
          exact Sm_le (leR_n (leR_n (leR_n (leR_n (leR_n (leR_n (leR_n leR_nil))))))) (s_M_notCopied_35 K hQ _ h)
    · rw [if_pos c4] at h
      exact Sm_le (leR_n (leR_n (leR_n (leR_n (leR_n (leR_n (leR_n leR_nil))))))) (s_M_notCopied_14 K hQ _ h)
def F_M_notCopied (t : Nat) (x1 : Int32) (x2 : Int32) (x3 : Int32) (x4 : Int32) (x5 : Int32) (w : A_W) : Option (Int32 × A_W) := F_M_notCopied_0 t x1 x2 x3 x4 x5 w
theorem cn_M_notCopied {G : Gx} {t : Nat} {x1 : Int32} {x2 : Int32} {x3 : Int32} {x4 : Int32} {x5 : Int32} {w : A_W} {res : Int32 × A_W} (h : F_M_notCopied t x1 x2 x3 x4 x5 w = some res) : Cn G y_M_notCopied c_M_notCopied 7 (some .int) rm_M_notCopied [.ref t, .int x1, .int x2, .int x3, .int x4, .int x5] w (some (.int res.1)) res.2 :=
  Cn_of (own := 4) cy_M_notCopied rfl rfl (Nat.le_of_ble_eq_true rfl) rfl (fun X K _ hQ => Sm_le (leR_s (leR_s (leR_s (leR_s (leR_s (leR_s (leR_n leR_nil))))))) (s_M_notCopied_0 K hQ _ _ _ _ _ _ _ h))
/-! EveningCloakModel.copy(IIIII)I -/
abbrev c_M_copy : ByteArray := prog_6_method_94_code
def y_M_copy : MethodName := ⟨"EveningCloakModel", "copy", "(IIIII)I"⟩
def rm_M_copy : Room := { frames := 3, cells := 0, slots := 0, locals := 68 }
theorem cy_M_copy : Cy y_M_copy c_M_copy 9 (some .int) 5 := ⟨lgm 1179 (by decide +kernel) rfl, lgm 73 (by decide +kernel) rfl, by decide +kernel, by decide +kernel⟩
theorem im_M_copy : Cond.instanceMethod y_M_copy ∈ lg := lgm 1177 (by decide +kernel) rfl
theorem se_M_copy : Cond.selects y_M_copy.cls y_M_copy y_M_copy ∈ lg := lgm 1178 (by decide +kernel) rfl
def e_M_copy : List Ent := [
  (0, .aload_n 0, 1, 1, .null, 0, 0, 0),
  (1, .iload_n 1, 1, 2, .null, 0, 0, 0),
  (2, .iload_n 2, 1, 3, .null, 0, 0, 0),
  (3, .iload_n 3, 1, 4, .null, 0, 0, 0),
  (4, .iload 4, 2, 6, .null, 0, 0, 0),
  (6, .iload 5, 2, 8, .null, 0, 0, 0),
  (8, .invokevirtual 250, 3, 11, .null, 0, 0, 0),
  (11, .istore 6, 2, 13, .null, 0, 0, 0),
  (13, .iload 6, 2, 15, .null, 0, 0, 0),
  (15, .ifCond .eq 10, 3, 25, .null, 0, 0, 0),
  (18, .aload_n 0, 1, 19, .null, 0, 0, 0),
  (19, .iload 6, 2, 21, .null, 0, 0, 0),
  (21, .invokevirtual 36, 3, 24, .null, 0, 0, 0),
  (24, .ireturn, 1, 25, .null, 0, 0, 0),
  (25, .iconst 0, 1, 26, .int 0, 0, 0, 0),
  (26, .istore 7, 2, 28, .null, 0, 0, 0),
  (28, .iload 7, 2, 30, .null, 0, 0, 0),
  (30, .iload 5, 2, 32, .null, 0, 0, 0),
  (32, .if_icmp .ge 58, 3, 90, .null, 0, 0, 0),
  (35, .iload_n 2, 1, 36, .null, 0, 0, 0),
  (36, .iload 4, 2, 38, .null, 0, 0, 0),
  (38, .if_icmp .ge 13, 3, 51, .null, 0, 0, 0),
  (41, .iload 5, 2, 43, .null, 0, 0, 0),
  (43, .iconst 1, 1, 44, .int 1, 0, 0, 0),
  (44, .isub, 1, 45, .null, 0, 0, 0),
  (45, .iload 7, 2, 47, .null, 0, 0, 0),
  (47, .isub, 1, 48, .null, 0, 0, 0),
  (48, .goto 5, 3, 53, .null, 0, 0, 0),
  (51, .iload 7, 2, 53, .null, 0, 0, 0),
  (53, .istore 8, 2, 55, .null, 0, 0, 0),
  (55, .aload_n 0, 1, 56, .null, 0, 0, 0),
  (56, .getfield 28, 3, 59, .null, 4, 7, 769),
  (59, .bipush 40, 2, 61, .int 40, 0, 0, 0),
  (61, .iload_n 3, 1, 62, .null, 0, 0, 0),
  (62, .imul, 1, 63, .null, 0, 0, 0),
  (63, .iload 4, 2, 65, .null, 0, 0, 0),
  (65, .iadd, 1, 66, .null, 0, 0, 0),
  (66, .iload 8, 2, 68, .null, 0, 0, 0),
  (68, .iadd, 1, 69, .null, 0, 0, 0),
  (69, .aload_n 0, 1, 70, .null, 0, 0, 0),
  (70, .getfield 28, 3, 73, .null, 4, 7, 769),
  (73, .bipush 40, 2, 75, .int 40, 0, 0, 0),
  (75, .iload_n 1, 1, 76, .null, 0, 0, 0),
  (76, .imul, 1, 77, .null, 0, 0, 0),
  (77, .iload_n 2, 1, 78, .null, 0, 0, 0),
  (78, .iadd, 1, 79, .null, 0, 0, 0),
  (79, .iload 8, 2, 81, .null, 0, 0, 0),
  (81, .iadd, 1, 82, .null, 0, 0, 0),
  (82, .iaload, 1, 83, .null, 0, 0, 0),
  (83, .iastore, 1, 84, .null, 0, 0, 0),
  (84, .iinc 7 1, 3, 87, .int 1, 0, 0, 0),
  (87, .goto (-59), 3, 28, .null, 0, 0, 0),
  (90, .iload 5, 2, 92, .null, 0, 0, 0),
  (92, .ireturn, 1, 93, .null, 0, 0, 0)]
set_option maxRecDepth 100000 in
theorem ek_M_copy : e_M_copy.all (eok 4 c_M_copy) = true := by decide +kernel
def F_M_copy_53 (k28 : Nat → Int32 → Int32 → Int32 → Int32 → Int32 → Int32 → A_W → Option (Int32 × A_W)) (t : Nat) (x1 : Int32) (x2 : Int32) (x3 : Int32) (x4 : Int32) (x5 : Int32) (x7 : Int32) (y0 : Int32) (w : A_W) : Option (Int32 × A_W) :=
  (gr w t 4 7).bind fun a1 =>
  (gr w t 4 7).bind fun a2 =>
  (rd w a2 (((40 * x1) + x2) + y0)).bind fun v3 =>
  (wr w a1 (((40 * x3) + x4) + y0) v3).bind fun w4 =>
  k28 t x1 x2 x3 x4 x5 (x7 + 1) w4
def F_M_copy_28 : Nat → Nat → Int32 → Int32 → Int32 → Int32 → Int32 → Int32 → A_W → Option (Int32 × A_W)
  | 0, _, _, _, _, _, _, _, _ => none
  | n + 1, t, x1, x2, x3, x4, x5, x7, w =>
    if x5 ≤ x7 then
      some (x5, w)
    else
      if x4 ≤ x2 then
        F_M_copy_53 (F_M_copy_28 n) t x1 x2 x3 x4 x5 x7 x7 w
      else
        F_M_copy_53 (F_M_copy_28 n) t x1 x2 x3 x4 x5 x7 ((x5 - 1) - x7) w
def F_M_copy_0 (t : Nat) (x1 : Int32) (x2 : Int32) (x3 : Int32) (x4 : Int32) (x5 : Int32) (w : A_W) : Option (Int32 × A_W) :=
  (ob w t 4).bind fun o2 =>
  (F_M_notCopied t x1 x2 x3 x4 x5 w).bind fun p1 =>
  if p1.1 = 0 then
    F_M_copy_28 FU t x1 x2 x3 x4 x5 0 p1.2
  else
    (ob p1.2 t 4).bind fun o5 =>
    (F_M_finds t p1.1 p1.2).bind fun p4 =>
    some (p4.1, p4.2)
set_option maxHeartbeats 4000000 in
set_option maxRecDepth 100000 in
theorem s_M_copy_53 {G : Gx} {X : Cx} {res : Int32 × A_W} (K : Ok G X 4 c_M_copy 9 (some .int) rm_M_copy) (hQ : QQ G X (some (.int res.1)) res.2 0 0) {k28 : Nat → Int32 → Int32 → Int32 → Int32 → Int32 → Int32 → A_W → Option (Int32 × A_W)} (hk28 : ∀ (t : Nat) (x1 : Int32) (x2 : Int32) (x3 : Int32) (x4 : Int32) (x5 : Int32) (x7 : Int32) (w : A_W), k28 t x1 x2 x3 x4 x5 x7 w = some res → Sm G X w 0 0 [some (.ref t), some (.int x1), some (.int x2), some (.int x3), some (.int x4), some (.int x5), none, some (.int x7), none] [] 28) (t : Nat) (x1 : Int32) (x2 : Int32) (x3 : Int32) (x4 : Int32) (x5 : Int32) (x7 : Int32) (y0 : Int32) (w : A_W) (h : F_M_copy_53 k28 t x1 x2 x3 x4 x5 x7 y0 w = some res) : Sm G X w 0 0 [some (.ref t), some (.int x1), some (.int x2), some (.int x3), some (.int x4), some (.int x5), none, some (.int x7), none] [.int y0] 53 := by
  unfold F_M_copy_53 at h
  refine Sm_run K ek_M_copy 29 2 rfl ?_
  obtain ⟨a1, e_a1, h⟩ := Option.bind_eq_some_iff.mp h
  refine Sm_gr K (eo ek_M_copy (i := 31) rfl) e_a1 ?_
  refine Sm_run K ek_M_copy 32 8 rfl ?_
  obtain ⟨a2, e_a2, h⟩ := Option.bind_eq_some_iff.mp h
  refine Sm_gr K (eo ek_M_copy (i := 40) rfl) e_a2 ?_
  refine Sm_run K ek_M_copy 41 7 rfl ?_
  obtain ⟨v3, e_v3, h⟩ := Option.bind_eq_some_iff.mp h
  refine Sm_rd K (eok_i (eo ek_M_copy (i := 48) rfl) rfl) e_v3 ?_
  obtain ⟨w4, e_w4, h⟩ := Option.bind_eq_some_iff.mp h
  refine Sm_wr K (eok_i (eo ek_M_copy (i := 49) rfl) rfl) e_w4 ?_
  refine Sm_run K ek_M_copy 50 2 rfl ?_
  exact Sm_le (leR_s (leR_s (leR_s (leR_s (leR_s (leR_s (leR_n (leR_s (leR_n leR_nil))))))))) (hk28 _ _ _ _ _ _ _ _ h)
set_option maxHeartbeats 4000000 in
set_option maxRecDepth 100000 in
theorem s_M_copy_28 {G : Gx} {X : Cx} {res : Int32 × A_W} (K : Ok G X 4 c_M_copy 9 (some .int) rm_M_copy) (hQ : QQ G X (some (.int res.1)) res.2 0 0) : ∀ (n : Nat) (t : Nat) (x1 : Int32) (x2 : Int32) (x3 : Int32) (x4 : Int32) (x5 : Int32) (x7 : Int32) (w : A_W), F_M_copy_28 n t x1 x2 x3 x4 x5 x7 w = some res → Sm G X w 0 0 [some (.ref t), some (.int x1), some (.int x2), some (.int x3), some (.int x4), some (.int x5), none, some (.int x7), none] [] 28 := by
  intro n
  induction n with
  | zero => intro t x1 x2 x3 x4 x5 x7 w h; cases h
  | succ n ih =>
    intro t x1 x2 x3 x4 x5 x7 w h
    rw [F_M_copy_28] at h
    refine Sm_run K ek_M_copy 16 2 rfl ?_
    refine Sm_ic_ge K (eo ek_M_copy (i := 18) rfl) (fun c1 => ?_) (fun c1 => ?_)
    · rw [if_pos c1] at h
      refine Sm_run K ek_M_copy 52 1 rfl ?_
      obtain rfl := Option.some.inj h
      exact Sm_reti K hQ (eok_i (eo ek_M_copy (i := 53) rfl) rfl)
    · rw [if_neg c1] at h
      refine Sm_run K ek_M_copy 19 2 rfl ?_
      refine Sm_ic_ge K (eo ek_M_copy (i := 21) rfl) (fun c2 => ?_) (fun c2 => ?_)
      · rw [if_pos c2] at h
        refine Sm_run K ek_M_copy 28 1 rfl ?_
        exact Sm_le (leR_s (leR_s (leR_s (leR_s (leR_s (leR_s (leR_n (leR_s (leR_n leR_nil))))))))) (s_M_copy_53 K hQ ih _ _ _ _ _ _ _ _ _ h)
      · rw [if_neg c2] at h
        refine Sm_run K ek_M_copy 22 6 rfl ?_
        exact Sm_le (leR_s (leR_s (leR_s (leR_s (leR_s (leR_s (leR_n (leR_s (leR_n leR_nil))))))))) (s_M_copy_53 K hQ ih _ _ _ _ _ _ _ _ _ h)
set_option maxHeartbeats 4000000 in
set_option maxRecDepth 100000 in
theorem s_M_copy_0 {G : Gx} {X : Cx} {res : Int32 × A_W} (K : Ok G X 4 c_M_copy 9 (some .int) rm_M_copy) (hQ : QQ G X (some (.int res.1)) res.2 0 0) (t : Nat) (x1 : Int32) (x2 : Int32) (x3 : Int32) (x4 : Int32) (x5 : Int32) (w : A_W) (h : F_M_copy_0 t x1 x2 x3 x4 x5 w = some res) : Sm G X w 0 0 [some (.ref t), some (.int x1), some (.int x2), some (.int x3), some (.int x4), some (.int x5), none, none, none] [] 0 := by
  unfold F_M_copy_0 at h
  refine Sm_run K ek_M_copy 0 6 rfl ?_
  obtain ⟨o2, e_o2, h⟩ := Option.bind_eq_some_iff.mp h
  obtain ⟨p1, e_p1, h⟩ := Option.bind_eq_some_iff.mp h
  refine Sm_callV K (eok_i (eo ek_M_copy (i := 6) rfl) rfl) cy_M_notCopied im_M_notCopied se_M_notCopied (lgm 1180 (by decide +kernel) rfl) ⟨Nat.le_of_ble_eq_true rfl, Nat.le_of_ble_eq_true rfl⟩ (as := [.int x1, .int x2, .int x3, .int x4, .int x5]) (b := t) (st := []) (ob_e e_o2) (by decide) rfl rfl rfl rfl (Nat.le_of_ble_eq_true rfl) ⟨Nat.le_of_ble_eq_true rfl, Nat.le_of_ble_eq_true rfl⟩ (cn_M_notCopied e_p1) ?_
  refine Sm_eq (st1 := .int p1.1 :: []) (nc1 := 0) (ns1 := 0) rfl rfl rfl ?_
  refine Sm_run K ek_M_copy 7 2 rfl ?_
  refine Sm_if_eq K (eo ek_M_copy (i := 9) rfl) (fun c3 => ?_) (fun c3 => ?_)
  · rw [if_pos c3] at h
    refine Sm_run K ek_M_copy 14 2 rfl ?_
    exact Sm_le (leR_s (leR_s (leR_s (leR_s (leR_s (leR_s (leR_n (leR_s (leR_n leR_nil))))))))) (s_M_copy_28 K hQ FU _ _ _ _ _ _ _ _ h)
  · rw [if_neg c3] at h
    refine Sm_run K ek_M_copy 10 2 rfl ?_
    obtain ⟨o5, e_o5, h⟩ := Option.bind_eq_some_iff.mp h
    obtain ⟨p4, e_p4, h⟩ := Option.bind_eq_some_iff.mp h
    refine Sm_callV K (eok_i (eo ek_M_copy (i := 12) rfl) rfl) cy_M_finds im_M_finds se_M_finds (lgm 826 (by decide +kernel) rfl) ⟨Nat.le_of_ble_eq_true rfl, Nat.le_of_ble_eq_true rfl⟩ (as := [.int p1.1]) (b := t) (st := []) (ob_e e_o5) (by decide) rfl rfl rfl rfl (Nat.le_of_ble_eq_true rfl) ⟨Nat.le_of_ble_eq_true rfl, Nat.le_of_ble_eq_true rfl⟩ (cn_M_finds e_p4) ?_
    refine Sm_eq (st1 := .int p4.1 :: []) (nc1 := 0) (ns1 := 0) rfl rfl rfl ?_
    obtain rfl := Option.some.inj h
    exact Sm_reti K hQ (eok_i (eo ek_M_copy (i := 13) rfl) rfl)
def F_M_copy (t : Nat) (x1 : Int32) (x2 : Int32) (x3 : Int32) (x4 : Int32) (x5 : Int32) (w : A_W) : Option (Int32 × A_W) := F_M_copy_0 t x1 x2 x3 x4 x5 w
theorem cn_M_copy {G : Gx} {t : Nat} {x1 : Int32} {x2 : Int32} {x3 : Int32} {x4 : Int32} {x5 : Int32} {w : A_W} {res : Int32 × A_W} (h : F_M_copy t x1 x2 x3 x4 x5 w = some res) : Cn G y_M_copy c_M_copy 9 (some .int) rm_M_copy [.ref t, .int x1, .int x2, .int x3, .int x4, .int x5] w (some (.int res.1)) res.2 :=
  Cn_of (own := 4) cy_M_copy rfl rfl (Nat.le_of_ble_eq_true rfl) rfl (fun X K _ hQ => Sm_le (leR_s (leR_s (leR_s (leR_s (leR_s (leR_s (leR_n (leR_n (leR_n leR_nil))))))))) (s_M_copy_0 K hQ _ _ _ _ _ _ _ h))
/-! EveningCloakModel.load(I)I -/
abbrev c_M_load : ByteArray := prog_6_method_95_code
def y_M_load : MethodName := ⟨"EveningCloakModel", "load", "(I)I"⟩
def rm_M_load : Room := { frames := 3, cells := 0, slots := 0, locals := 63 }
theorem cy_M_load : Cy y_M_load c_M_load 4 (some .int) 1 := ⟨lgm 1187 (by decide +kernel) rfl, lgm 73 (by decide +kernel) rfl, by decide +kernel, by decide +kernel⟩
theorem im_M_load : Cond.instanceMethod y_M_load ∈ lg := lgm 1185 (by decide +kernel) rfl
theorem se_M_load : Cond.selects y_M_load.cls y_M_load y_M_load ∈ lg := lgm 1186 (by decide +kernel) rfl
def e_M_load : List Ent := [
  (0, .aload_n 0, 1, 1, .null, 0, 0, 0),
  (1, .iload_n 1, 1, 2, .null, 0, 0, 0),
  (2, .invokevirtual 169, 3, 5, .null, 0, 0, 0),
  (5, .istore_n 2, 1, 6, .null, 0, 0, 0),
  (6, .iload_n 2, 1, 7, .null, 0, 0, 0),
  (7, .ifCond .eq 9, 3, 16, .null, 0, 0, 0),
  (10, .aload_n 0, 1, 11, .null, 0, 0, 0),
  (11, .iload_n 2, 1, 12, .null, 0, 0, 0),
  (12, .invokevirtual 36, 3, 15, .null, 0, 0, 0),
  (15, .ireturn, 1, 16, .null, 0, 0, 0),
  (16, .iconst 0, 1, 17, .int 0, 0, 0, 0),
  (17, .istore_n 3, 1, 18, .null, 0, 0, 0),
  (18, .iload_n 3, 1, 19, .null, 0, 0, 0),
  (19, .aload_n 0, 1, 20, .null, 0, 0, 0),
  (20, .getfield 25, 3, 23, .null, 4, 6, 768),
  (23, .iload_n 1, 1, 24, .null, 0, 0, 0),
  (24, .iaload, 1, 25, .null, 0, 0, 0),
  (25, .if_icmp .ge 56, 3, 81, .null, 0, 0, 0),
  (28, .iload_n 3, 1, 29, .null, 0, 0, 0),
  (29, .aload_n 0, 1, 30, .null, 0, 0, 0),
  (30, .getfield 9, 3, 33, .null, 4, 0, 762),
  (33, .iconst 3, 1, 34, .int 3, 0, 0, 0),
  (34, .iaload, 1, 35, .null, 0, 0, 0),
  (35, .if_icmp .ge 46, 3, 81, .null, 0, 0, 0),
  (38, .aload_n 0, 1, 39, .null, 0, 0, 0),
  (39, .getfield 28, 3, 42, .null, 4, 7, 769),
  (42, .bipush 40, 2, 44, .int 40, 0, 0, 0),
  (44, .iload_n 1, 1, 45, .null, 0, 0, 0),
  (45, .imul, 1, 46, .null, 0, 0, 0),
  (46, .iload_n 3, 1, 47, .null, 0, 0, 0),
  (47, .iadd, 1, 48, .null, 0, 0, 0),
  (48, .iaload, 1, 49, .null, 0, 0, 0),
  (49, .iconst 0, 1, 50, .int 0, 0, 0, 0),
  (50, .bipush 99, 2, 52, .int 99, 0, 0, 0),
  (52, .invokestatic 40, 3, 55, .null, 0, 0, 0),
  (55, .ifCond .eq 26, 3, 81, .null, 0, 0, 0),
  (58, .aload_n 0, 1, 59, .null, 0, 0, 0),
  (59, .iload_n 3, 1, 60, .null, 0, 0, 0),
  (60, .iconst 2, 1, 61, .int 2, 0, 0, 0),
  (61, .aload_n 0, 1, 62, .null, 0, 0, 0),
  (62, .getfield 28, 3, 65, .null, 4, 7, 769),
  (65, .bipush 40, 2, 67, .int 40, 0, 0, 0),
  (67, .iload_n 1, 1, 68, .null, 0, 0, 0),
  (68, .imul, 1, 69, .null, 0, 0, 0),
  (69, .iload_n 3, 1, 70, .null, 0, 0, 0),
  (70, .iadd, 1, 71, .null, 0, 0, 0),
  (71, .iaload, 1, 72, .null, 0, 0, 0),
  (72, .invokevirtual 74, 3, 75, .null, 0, 0, 0),
  (75, .iinc 3 1, 3, 78, .int 1, 0, 0, 0),
  (78, .goto (-60), 3, 18, .null, 0, 0, 0),
  (81, .iload_n 3, 1, 82, .null, 0, 0, 0),
  (82, .ireturn, 1, 83, .null, 0, 0, 0)]
set_option maxRecDepth 100000 in
theorem ek_M_load : e_M_load.all (eok 4 c_M_load) = true := by decide +kernel
def F_M_load_81 (x3 : Int32) (w : A_W) : Option (Int32 × A_W) :=
  some (x3, w)
def F_M_load_18 : Nat → Nat → Int32 → Int32 → A_W → Option (Int32 × A_W)
  | 0, _, _, _, _ => none
  | n + 1, t, x1, x3, w =>
    (gr w t 4 6).bind fun a1 =>
    (rd w a1 x1).bind fun v2 =>
    if v2 ≤ x3 then
      F_M_load_81 x3 w
    else
      (gr w t 4 0).bind fun a4 =>
      (rd w a4 3).bind fun v5 =>
      if v5 ≤ x3 then
        F_M_load_81 x3 w
      else
        (gr w t 4 7).bind fun a7 =>
        (rd w a7 ((40 * x1) + x3)).bind fun v8 =>
        (F_M_in v8 0 99 w).bind fun p9 =>
        if p9.1 = 0 then
          F_M_load_81 x3 p9.2
        else
          (gr p9.2 t 4 7).bind fun a11 =>
          (rd p9.2 a11 ((40 * x1) + x3)).bind fun v12 =>
          (ob p9.2 t 4).bind fun o14 =>
          (F_M_put t x3 2 v12 p9.2).bind fun p13 =>
          F_M_load_18 n t x1 (x3 + 1) p13
def F_M_load_0 (t : Nat) (x1 : Int32) (w : A_W) : Option (Int32 × A_W) :=
  (ob w t 4).bind fun o2 =>
  (F_M_notThere t x1 w).bind fun p1 =>
  if p1.1 = 0 then
    F_M_load_18 FU t x1 0 p1.2
  else
    (ob p1.2 t 4).bind fun o5 =>
    (F_M_finds t p1.1 p1.2).bind fun p4 =>
    some (p4.1, p4.2)
set_option maxHeartbeats 4000000 in
set_option maxRecDepth 100000 in
theorem s_M_load_81 {G : Gx} {X : Cx} {res : Int32 × A_W} (K : Ok G X 4 c_M_load 4 (some .int) rm_M_load) (hQ : QQ G X (some (.int res.1)) res.2 0 0) (x3 : Int32) (w : A_W) (h : F_M_load_81 x3 w = some res) : Sm G X w 0 0 [none, none, none, some (.int x3)] [] 81 := by
  unfold F_M_load_81 at h
  refine Sm_run K ek_M_load 50 1 rfl ?_
  obtain rfl := Option.some.inj h
  exact Sm_reti K hQ (eok_i (eo ek_M_load (i := 51) rfl) rfl)
set_option maxHeartbeats 4000000 in
set_option maxRecDepth 100000 in
theorem s_M_load_18 {G : Gx} {X : Cx} {res : Int32 × A_W} (K : Ok G X 4 c_M_load 4 (some .int) rm_M_load) (hQ : QQ G X (some (.int res.1)) res.2 0 0) : ∀ (n : Nat) (t : Nat) (x1 : Int32) (x3 : Int32) (w : A_W), F_M_load_18 n t x1 x3 w = some res → Sm G X w 0 0 [some (.ref t), some (.int x1), none, some (.int x3)] [] 18 := by
  intro n
  induction n with
  | zero => intro t x1 x3 w h; cases h
  | succ n ih =>
    intro t x1 x3 w h
    rw [F_M_load_18] at h
    refine Sm_run K ek_M_load 12 2 rfl ?_
    obtain ⟨a1, e_a1, h⟩ := Option.bind_eq_some_iff.mp h
    refine Sm_gr K (eo ek_M_load (i := 14) rfl) e_a1 ?_
    refine Sm_run K ek_M_load 15 1 rfl ?_
    obtain ⟨v2, e_v2, h⟩ := Option.bind_eq_some_iff.mp h
    refine Sm_rd K (eok_i (eo ek_M_load (i := 16) rfl) rfl) e_v2 ?_
    refine Sm_ic_ge K (eo ek_M_load (i := 17) rfl) (fun c3 => ?_) (fun c3 => ?_)
    · rw [if_pos c3] at h
      exact Sm_le (leR_n (leR_n (leR_n (leR_s leR_nil)))) (s_M_load_81 K hQ _ _ h)
    · rw [if_neg c3] at h
      refine Sm_run K ek_M_load 18 2 rfl ?_
      obtain ⟨a4, e_a4, h⟩ := Option.bind_eq_some_iff.mp h
      refine Sm_gr K (eo ek_M_load (i := 20) rfl) e_a4 ?_
      refine Sm_run K ek_M_load 21 1 rfl ?_
      obtain ⟨v5, e_v5, h⟩ := Option.bind_eq_some_iff.mp h
      refine Sm_rd K (eok_i (eo ek_M_load (i := 22) rfl) rfl) e_v5 ?_
      refine Sm_ic_ge K (eo ek_M_load (i := 23) rfl) (fun c6 => ?_) (fun c6 => ?_)
      · rw [if_pos c6] at h
        exact Sm_le (leR_n (leR_n (leR_n (leR_s leR_nil)))) (s_M_load_81 K hQ _ _ h)
      · rw [if_neg c6] at h
        refine Sm_run K ek_M_load 24 1 rfl ?_
        obtain ⟨a7, e_a7, h⟩ := Option.bind_eq_some_iff.mp h
        refine Sm_gr K (eo ek_M_load (i := 25) rfl) e_a7 ?_
        refine Sm_run K ek_M_load 26 5 rfl ?_
        obtain ⟨v8, e_v8, h⟩ := Option.bind_eq_some_iff.mp h
        refine Sm_rd K (eok_i (eo ek_M_load (i := 31) rfl) rfl) e_v8 ?_
        refine Sm_run K ek_M_load 32 2 rfl ?_
        obtain ⟨p9, e_p9, h⟩ := Option.bind_eq_some_iff.mp h
        refine Sm_callS K (eok_i (eo ek_M_load (i := 34) rfl) rfl) cy_M_in st_M_in (lgm 815 (by decide +kernel) rfl) ⟨Nat.le_of_ble_eq_true rfl, Nat.le_of_ble_eq_true rfl⟩ (as := [.int v8, .int 0, .int 99]) (st := []) rfl rfl rfl (Nat.le_of_ble_eq_true rfl) ⟨Nat.le_of_ble_eq_true rfl, Nat.le_of_ble_eq_true rfl⟩ (cn_M_in e_p9) ?_
        refine Sm_eq (st1 := .int p9.1 :: []) (nc1 := 0) (ns1 := 0) rfl rfl rfl ?_
        refine Sm_if_eq K (eo ek_M_load (i := 35) rfl) (fun c10 => ?_) (fun c10 => ?_)
        · rw [if_pos c10] at h
          exact Sm_le (leR_n (leR_n (leR_n (leR_s leR_nil)))) (s_M_load_81 K hQ _ _ h)
        · rw [if_neg c10] at h
          refine Sm_run K ek_M_load 36 4 rfl ?_
          obtain ⟨a11, e_a11, h⟩ := Option.bind_eq_some_iff.mp h
          refine Sm_gr K (eo ek_M_load (i := 40) rfl) e_a11 ?_
          refine Sm_run K ek_M_load 41 5 rfl ?_
          obtain ⟨v12, e_v12, h⟩ := Option.bind_eq_some_iff.mp h
          refine Sm_rd K (eok_i (eo ek_M_load (i := 46) rfl) rfl) e_v12 ?_
          obtain ⟨o14, e_o14, h⟩ := Option.bind_eq_some_iff.mp h
          obtain ⟨p13, e_p13, h⟩ := Option.bind_eq_some_iff.mp h
          refine Sm_callV K (eok_i (eo ek_M_load (i := 47) rfl) rfl) cy_M_put im_M_put se_M_put (lgm 843 (by decide +kernel) rfl) ⟨Nat.le_of_ble_eq_true rfl, Nat.le_of_ble_eq_true rfl⟩ (as := [.int x3, .int 2, .int v12]) (b := t) (st := []) (ob_e e_o14) (by decide) rfl rfl rfl rfl (Nat.le_of_ble_eq_true rfl) ⟨Nat.le_of_ble_eq_true rfl, Nat.le_of_ble_eq_true rfl⟩ (cn_M_put e_p13) ?_
          refine Sm_eq (st1 := []) (nc1 := 0) (ns1 := 0) rfl rfl rfl ?_
          refine Sm_run K ek_M_load 48 2 rfl ?_
          exact Sm_le (leR_s (leR_s (leR_n (leR_s leR_nil)))) (ih _ _ _ _ h)
set_option maxHeartbeats 4000000 in
set_option maxRecDepth 100000 in
theorem s_M_load_0 {G : Gx} {X : Cx} {res : Int32 × A_W} (K : Ok G X 4 c_M_load 4 (some .int) rm_M_load) (hQ : QQ G X (some (.int res.1)) res.2 0 0) (t : Nat) (x1 : Int32) (w : A_W) (h : F_M_load_0 t x1 w = some res) : Sm G X w 0 0 [some (.ref t), some (.int x1), none, none] [] 0 := by
  unfold F_M_load_0 at h
  refine Sm_run K ek_M_load 0 2 rfl ?_
  obtain ⟨o2, e_o2, h⟩ := Option.bind_eq_some_iff.mp h
  obtain ⟨p1, e_p1, h⟩ := Option.bind_eq_some_iff.mp h
  refine Sm_callV K (eok_i (eo ek_M_load (i := 2) rfl) rfl) cy_M_notThere im_M_notThere se_M_notThere (lgm 1058 (by decide +kernel) rfl) ⟨Nat.le_of_ble_eq_true rfl, Nat.le_of_ble_eq_true rfl⟩ (as := [.int x1]) (b := t) (st := []) (ob_e e_o2) (by decide) rfl rfl rfl rfl (Nat.le_of_ble_eq_true rfl) ⟨Nat.le_of_ble_eq_true rfl, Nat.le_of_ble_eq_true rfl⟩ (cn_M_notThere e_p1) ?_
  refine Sm_eq (st1 := .int p1.1 :: []) (nc1 := 0) (ns1 := 0) rfl rfl rfl ?_
  refine Sm_run K ek_M_load 3 2 rfl ?_
  refine Sm_if_eq K (eo ek_M_load (i := 5) rfl) (fun c3 => ?_) (fun c3 => ?_)
  · rw [if_pos c3] at h
    refine Sm_run K ek_M_load 10 2 rfl ?_
    exact Sm_le (leR_s (leR_s (leR_n (leR_s leR_nil)))) (s_M_load_18 K hQ FU _ _ _ _ h)
  · rw [if_neg c3] at h
    refine Sm_run K ek_M_load 6 2 rfl ?_
    obtain ⟨o5, e_o5, h⟩ := Option.bind_eq_some_iff.mp h
    obtain ⟨p4, e_p4, h⟩ := Option.bind_eq_some_iff.mp h
    refine Sm_callV K (eok_i (eo ek_M_load (i := 8) rfl) rfl) cy_M_finds im_M_finds se_M_finds (lgm 826 (by decide +kernel) rfl) ⟨Nat.le_of_ble_eq_true rfl, Nat.le_of_ble_eq_true rfl⟩ (as := [.int p1.1]) (b := t) (st := []) (ob_e e_o5) (by decide) rfl rfl rfl rfl (Nat.le_of_ble_eq_true rfl) ⟨Nat.le_of_ble_eq_true rfl, Nat.le_of_ble_eq_true rfl⟩ (cn_M_finds e_p4) ?_
    refine Sm_eq (st1 := .int p4.1 :: []) (nc1 := 0) (ns1 := 0) rfl rfl rfl ?_
    obtain rfl := Option.some.inj h
    exact Sm_reti K hQ (eok_i (eo ek_M_load (i := 9) rfl) rfl)
def F_M_load (t : Nat) (x1 : Int32) (w : A_W) : Option (Int32 × A_W) := F_M_load_0 t x1 w
theorem cn_M_load {G : Gx} {t : Nat} {x1 : Int32} {w : A_W} {res : Int32 × A_W} (h : F_M_load t x1 w = some res) : Cn G y_M_load c_M_load 4 (some .int) rm_M_load [.ref t, .int x1] w (some (.int res.1)) res.2 :=
  Cn_of (own := 4) cy_M_load rfl rfl (Nat.le_of_ble_eq_true rfl) rfl (fun X K _ hQ => Sm_le (leR_s (leR_s (leR_n (leR_n leR_nil)))) (s_M_load_0 K hQ _ _ _ h))
/-! EveningCloakModel.judge(I)I -/
abbrev c_M_judge : ByteArray := prog_6_method_96_code
def y_M_judge : MethodName := ⟨"EveningCloakModel", "judge", "(I)I"⟩
def rm_M_judge : Room := { frames := 3, cells := 0, slots := 0, locals := 63 }
theorem cy_M_judge : Cy y_M_judge c_M_judge 4 (some .int) 1 := ⟨lgm 1191 (by decide +kernel) rfl, lgm 73 (by decide +kernel) rfl, by decide +kernel, by decide +kernel⟩
theorem im_M_judge : Cond.instanceMethod y_M_judge ∈ lg := lgm 1189 (by decide +kernel) rfl
theorem se_M_judge : Cond.selects y_M_judge.cls y_M_judge y_M_judge ∈ lg := lgm 1190 (by decide +kernel) rfl
def e_M_judge : List Ent := [
  (0, .aload_n 0, 1, 1, .null, 0, 0, 0),
  (1, .iload_n 1, 1, 2, .null, 0, 0, 0),
  (2, .invokevirtual 169, 3, 5, .null, 0, 0, 0),
  (5, .istore_n 2, 1, 6, .null, 0, 0, 0),
  (6, .iload_n 2, 1, 7, .null, 0, 0, 0),
  (7, .ifCond .eq 9, 3, 16, .null, 0, 0, 0),
  (10, .aload_n 0, 1, 11, .null, 0, 0, 0),
  (11, .iload_n 2, 1, 12, .null, 0, 0, 0),
  (12, .invokevirtual 36, 3, 15, .null, 0, 0, 0),
  (15, .ireturn, 1, 16, .null, 0, 0, 0),
  (16, .iconst 0, 1, 17, .int 0, 0, 0, 0),
  (17, .istore_n 3, 1, 18, .null, 0, 0, 0),
  (18, .iload_n 3, 1, 19, .null, 0, 0, 0),
  (19, .aload_n 0, 1, 20, .null, 0, 0, 0),
  (20, .getfield 25, 3, 23, .null, 4, 6, 768),
  (23, .iload_n 1, 1, 24, .null, 0, 0, 0),
  (24, .iaload, 1, 25, .null, 0, 0, 0),
  (25, .if_icmp .ge 41, 3, 66, .null, 0, 0, 0),
  (28, .aload_n 0, 1, 29, .null, 0, 0, 0),
  (29, .iload_n 3, 1, 30, .null, 0, 0, 0),
  (30, .invokevirtual 88, 3, 33, .null, 0, 0, 0),
  (33, .ifCond .eq 23, 3, 56, .null, 0, 0, 0),
  (36, .aload_n 0, 1, 37, .null, 0, 0, 0),
  (37, .getfield 28, 3, 40, .null, 4, 7, 769),
  (40, .bipush 40, 2, 42, .int 40, 0, 0, 0),
  (42, .iload_n 1, 1, 43, .null, 0, 0, 0),
  (43, .imul, 1, 44, .null, 0, 0, 0),
  (44, .iload_n 3, 1, 45, .null, 0, 0, 0),
  (45, .iadd, 1, 46, .null, 0, 0, 0),
  (46, .iaload, 1, 47, .null, 0, 0, 0),
  (47, .aload_n 0, 1, 48, .null, 0, 0, 0),
  (48, .iload_n 3, 1, 49, .null, 0, 0, 0),
  (49, .iconst 4, 1, 50, .int 4, 0, 0, 0),
  (50, .invokevirtual 44, 3, 53, .null, 0, 0, 0),
  (53, .if_icmp .eq 7, 3, 60, .null, 0, 0, 0),
  (56, .iconst 1, 1, 57, .int 1, 0, 0, 0),
  (57, .iload_n 3, 1, 58, .null, 0, 0, 0),
  (58, .iadd, 1, 59, .null, 0, 0, 0),
  (59, .ireturn, 1, 60, .null, 0, 0, 0),
  (60, .iinc 3 1, 3, 63, .int 1, 0, 0, 0),
  (63, .goto (-45), 3, 18, .null, 0, 0, 0),
  (66, .iconst 0, 1, 67, .int 0, 0, 0, 0),
  (67, .ireturn, 1, 68, .null, 0, 0, 0)]
set_option maxRecDepth 100000 in
theorem ek_M_judge : e_M_judge.all (eok 4 c_M_judge) = true := by decide +kernel
def F_M_judge_56 (x3 : Int32) (w : A_W) : Option (Int32 × A_W) :=
  some ((1 + x3), w)
def F_M_judge_18 : Nat → Nat → Int32 → Int32 → A_W → Option (Int32 × A_W)
  | 0, _, _, _, _ => none
  | n + 1, t, x1, x3, w =>
    (gr w t 4 6).bind fun a1 =>
    (rd w a1 x1).bind fun v2 =>
    if v2 ≤ x3 then
      some (0, w)
    else
      (ob w t 4).bind fun o5 =>
      (F_M_isDeposit t x3 w).bind fun p4 =>
      if p4.1 = 0 then
        F_M_judge_56 x3 p4.2
      else
        (gr p4.2 t 4 7).bind fun a7 =>
        (rd p4.2 a7 ((40 * x1) + x3)).bind fun v8 =>
        (ob p4.2 t 4).bind fun o10 =>
        (F_M_it t x3 4 p4.2).bind fun p9 =>
        if v8 = p9.1 then
          F_M_judge_18 n t x1 (x3 + 1) p9.2
        else
          F_M_judge_56 x3 p9.2
def F_M_judge_0 (t : Nat) (x1 : Int32) (w : A_W) : Option (Int32 × A_W) :=
  (ob w t 4).bind fun o2 =>
  (F_M_notThere t x1 w).bind fun p1 =>
  if p1.1 = 0 then
    F_M_judge_18 FU t x1 0 p1.2
  else
    (ob p1.2 t 4).bind fun o5 =>
    (F_M_finds t p1.1 p1.2).bind fun p4 =>
    some (p4.1, p4.2)
set_option maxHeartbeats 4000000 in
set_option maxRecDepth 100000 in
theorem s_M_judge_56 {G : Gx} {X : Cx} {res : Int32 × A_W} (K : Ok G X 4 c_M_judge 4 (some .int) rm_M_judge) (hQ : QQ G X (some (.int res.1)) res.2 0 0) (x3 : Int32) (w : A_W) (h : F_M_judge_56 x3 w = some res) : Sm G X w 0 0 [none, none, none, some (.int x3)] [] 56 := by
  unfold F_M_judge_56 at h
  refine Sm_run K ek_M_judge 35 3 rfl ?_
  obtain rfl := Option.some.inj h
  exact Sm_reti K hQ (eok_i (eo ek_M_judge (i := 38) rfl) rfl)
set_option maxHeartbeats 4000000 in
set_option maxRecDepth 100000 in
theorem s_M_judge_18 {G : Gx} {X : Cx} {res : Int32 × A_W} (K : Ok G X 4 c_M_judge 4 (some .int) rm_M_judge) (hQ : QQ G X (some (.int res.1)) res.2 0 0) : ∀ (n : Nat) (t : Nat) (x1 : Int32) (x3 : Int32) (w : A_W), F_M_judge_18 n t x1 x3 w = some res → Sm G X w 0 0 [some (.ref t), some (.int x1), none, some (.int x3)] [] 18 := by
  intro n
  induction n with
  | zero => intro t x1 x3 w h; cases h
  | succ n ih =>
    intro t x1 x3 w h
    rw [F_M_judge_18] at h
    refine Sm_run K ek_M_judge 12 2 rfl ?_
    obtain ⟨a1, e_a1, h⟩ := Option.bind_eq_some_iff.mp h
    refine Sm_gr K (eo ek_M_judge (i := 14) rfl) e_a1 ?_
    refine Sm_run K ek_M_judge 15 1 rfl ?_
    obtain ⟨v2, e_v2, h⟩ := Option.bind_eq_some_iff.mp h
    refine Sm_rd K (eok_i (eo ek_M_judge (i := 16) rfl) rfl) e_v2 ?_
    refine Sm_ic_ge K (eo ek_M_judge (i := 17) rfl) (fun c3 => ?_) (fun c3 => ?_)
    · rw [if_pos c3] at h
      refine Sm_run K ek_M_judge 41 1 rfl ?_
      obtain rfl := Option.some.inj h
      exact Sm_reti K hQ (eok_i (eo ek_M_judge (i := 42) rfl) rfl)
    · rw [if_neg c3] at h
      refine Sm_run K ek_M_judge 18 2 rfl ?_
      obtain ⟨o5, e_o5, h⟩ := Option.bind_eq_some_iff.mp h
      obtain ⟨p4, e_p4, h⟩ := Option.bind_eq_some_iff.mp h
      refine Sm_callV K (eok_i (eo ek_M_judge (i := 20) rfl) rfl) cy_M_isDeposit im_M_isDeposit se_M_isDeposit (lgm 863 (by decide +kernel) rfl) ⟨Nat.le_of_ble_eq_true rfl, Nat.le_of_ble_eq_true rfl⟩ (as := [.int x3]) (b := t) (st := []) (ob_e e_o5) (by decide) rfl rfl rfl rfl (Nat.le_of_ble_eq_true rfl) ⟨Nat.le_of_ble_eq_true rfl, Nat.le_of_ble_eq_true rfl⟩ (cn_M_isDeposit e_p4) ?_
      refine Sm_eq (st1 := .int p4.1 :: []) (nc1 := 0) (ns1 := 0) rfl rfl rfl ?_
      refine Sm_if_eq K (eo ek_M_judge (i := 21) rfl) (fun c6 => ?_) (fun c6 => ?_)
      · rw [if_pos c6] at h
        exact Sm_le (leR_n (leR_n (leR_n (leR_s leR_nil)))) (s_M_judge_56 K hQ _ _ h)
      · rw [if_neg c6] at h
        refine Sm_run K ek_M_judge 22 1 rfl ?_
        obtain ⟨a7, e_a7, h⟩ := Option.bind_eq_some_iff.mp h
        refine Sm_gr K (eo ek_M_judge (i := 23) rfl) e_a7 ?_
        refine Sm_run K ek_M_judge 24 5 rfl ?_
        obtain ⟨v8, e_v8, h⟩ := Option.bind_eq_some_iff.mp h
        refine Sm_rd K (eok_i (eo ek_M_judge (i := 29) rfl) rfl) e_v8 ?_
        refine Sm_run K ek_M_judge 30 3 rfl ?_
        obtain ⟨o10, e_o10, h⟩ := Option.bind_eq_some_iff.mp h
        obtain ⟨p9, e_p9, h⟩ := Option.bind_eq_some_iff.mp h
        refine Sm_callV K (eok_i (eo ek_M_judge (i := 33) rfl) rfl) cy_M_it im_M_it se_M_it (lgm 871 (by decide +kernel) rfl) ⟨Nat.le_of_ble_eq_true rfl, Nat.le_of_ble_eq_true rfl⟩ (as := [.int x3, .int 4]) (b := t) (st := [.int v8]) (ob_e e_o10) (by decide) rfl rfl rfl rfl (Nat.le_of_ble_eq_true rfl) ⟨Nat.le_of_ble_eq_true rfl, Nat.le_of_ble_eq_true rfl⟩ (cn_M_it e_p9) ?_
        refine Sm_eq (st1 := .int p9.1 :: [.int v8]) (nc1 := 0) (ns1 := 0) rfl rfl rfl ?_
        refine Sm_ic_eq K (eo ek_M_judge (i := 34) rfl) (fun c11 => ?_) (fun c11 => ?_)
        · rw [if_pos c11] at h
          refine Sm_run K ek_M_judge 39 2 rfl ?_
          exact Sm_le (leR_s (leR_s (leR_n (leR_s leR_nil)))) (ih _ _ _ _ h)
        · rw [if_neg c11] at h
          exact Sm_le (leR_n (leR_n (leR_n (leR_s leR_nil)))) (s_M_judge_56 K hQ _ _ h)
set_option maxHeartbeats 4000000 in
set_option maxRecDepth 100000 in
theorem s_M_judge_0 {G : Gx} {X : Cx} {res : Int32 × A_W} (K : Ok G X 4 c_M_judge 4 (some .int) rm_M_judge) (hQ : QQ G X (some (.int res.1)) res.2 0 0) (t : Nat) (x1 : Int32) (w : A_W) (h : F_M_judge_0 t x1 w = some res) : Sm G X w 0 0 [some (.ref t), some (.int x1), none, none] [] 0 := by
  unfold F_M_judge_0 at h
  refine Sm_run K ek_M_judge 0 2 rfl ?_
  obtain ⟨o2, e_o2, h⟩ := Option.bind_eq_some_iff.mp h
  obtain ⟨p1, e_p1, h⟩ := Option.bind_eq_some_iff.mp h
  refine Sm_callV K (eok_i (eo ek_M_judge (i := 2) rfl) rfl) cy_M_notThere im_M_notThere se_M_notThere (lgm 1058 (by decide +kernel) rfl) ⟨Nat.le_of_ble_eq_true rfl, Nat.le_of_ble_eq_true rfl⟩ (as := [.int x1]) (b := t) (st := []) (ob_e e_o2) (by decide) rfl rfl rfl rfl (Nat.le_of_ble_eq_true rfl) ⟨Nat.le_of_ble_eq_true rfl, Nat.le_of_ble_eq_true rfl⟩ (cn_M_notThere e_p1) ?_
  refine Sm_eq (st1 := .int p1.1 :: []) (nc1 := 0) (ns1 := 0) rfl rfl rfl ?_
  refine Sm_run K ek_M_judge 3 2 rfl ?_
  refine Sm_if_eq K (eo ek_M_judge (i := 5) rfl) (fun c3 => ?_) (fun c3 => ?_)
  · rw [if_pos c3] at h
    refine Sm_run K ek_M_judge 10 2 rfl ?_
    exact Sm_le (leR_s (leR_s (leR_n (leR_s leR_nil)))) (s_M_judge_18 K hQ FU _ _ _ _ h)
  · rw [if_neg c3] at h
    refine Sm_run K ek_M_judge 6 2 rfl ?_
    obtain ⟨o5, e_o5, h⟩ := Option.bind_eq_some_iff.mp h
    obtain ⟨p4, e_p4, h⟩ := Option.bind_eq_some_iff.mp h
    refine Sm_callV K (eok_i (eo ek_M_judge (i := 8) rfl) rfl) cy_M_finds im_M_finds se_M_finds (lgm 826 (by decide +kernel) rfl) ⟨Nat.le_of_ble_eq_true rfl, Nat.le_of_ble_eq_true rfl⟩ (as := [.int p1.1]) (b := t) (st := []) (ob_e e_o5) (by decide) rfl rfl rfl rfl (Nat.le_of_ble_eq_true rfl) ⟨Nat.le_of_ble_eq_true rfl, Nat.le_of_ble_eq_true rfl⟩ (cn_M_finds e_p4) ?_
    refine Sm_eq (st1 := .int p4.1 :: []) (nc1 := 0) (ns1 := 0) rfl rfl rfl ?_
    obtain rfl := Option.some.inj h
    exact Sm_reti K hQ (eok_i (eo ek_M_judge (i := 9) rfl) rfl)
def F_M_judge (t : Nat) (x1 : Int32) (w : A_W) : Option (Int32 × A_W) := F_M_judge_0 t x1 w
theorem cn_M_judge {G : Gx} {t : Nat} {x1 : Int32} {w : A_W} {res : Int32 × A_W} (h : F_M_judge t x1 w = some res) : Cn G y_M_judge c_M_judge 4 (some .int) rm_M_judge [.ref t, .int x1] w (some (.int res.1)) res.2 :=
  Cn_of (own := 4) cy_M_judge rfl rfl (Nat.le_of_ble_eq_true rfl) rfl (fun X K _ hQ => Sm_le (leR_s (leR_s (leR_n (leR_n leR_nil)))) (s_M_judge_0 K hQ _ _ _ h))
/-! EveningCloakModel.image()I -/
abbrev c_M_image : ByteArray := prog_6_method_97_code
def y_M_image : MethodName := ⟨"EveningCloakModel", "image", "()I"⟩
def rm_M_image : Room := { frames := 1, cells := 0, slots := 0, locals := 22 }
theorem cy_M_image : Cy y_M_image c_M_image 1 (some .int) 0 := ⟨lgm 1195 (by decide +kernel) rfl, lgm 73 (by decide +kernel) rfl, by decide +kernel, by decide +kernel⟩
theorem im_M_image : Cond.instanceMethod y_M_image ∈ lg := lgm 1193 (by decide +kernel) rfl
theorem se_M_image : Cond.selects y_M_image.cls y_M_image y_M_image ∈ lg := lgm 1194 (by decide +kernel) rfl
def e_M_image : List Ent := [
  (0, .aload_n 0, 1, 1, .null, 0, 0, 0),
  (1, .getfield 9, 3, 4, .null, 4, 0, 762),
  (4, .aload_n 0, 1, 5, .null, 0, 0, 0),
  (5, .getfield 13, 3, 8, .null, 4, 1, 763),
  (8, .invokestatic 138, 3, 11, .null, 0, 0, 0),
  (11, .aload_n 0, 1, 12, .null, 0, 0, 0),
  (12, .iconst 1, 1, 13, .int 1, 0, 0, 0),
  (13, .putfield 254, 3, 16, .null, 4, 3, 765),
  (16, .iconst 1, 1, 17, .int 1, 0, 0, 0),
  (17, .ireturn, 1, 18, .null, 0, 0, 0)]
set_option maxRecDepth 100000 in
theorem ek_M_image : e_M_image.all (eok 4 c_M_image) = true := by decide +kernel
def F_M_image_0 (t : Nat) (w : A_W) : Option (Int32 × A_W) :=
  (gr w t 4 0).bind fun a1 =>
  (gr w t 4 1).bind fun a2 =>
  (F_M_copyAll a1 a2 w).bind fun p3 =>
  (bz 1).bind fun b5 =>
  (pf p3 t 4 3 (.int b5)).bind fun w4 =>
  some (1, w4)
set_option maxHeartbeats 4000000 in
set_option maxRecDepth 100000 in
theorem s_M_image_0 {G : Gx} {X : Cx} {res : Int32 × A_W} (K : Ok G X 4 c_M_image 1 (some .int) rm_M_image) (hQ : QQ G X (some (.int res.1)) res.2 0 0) (t : Nat) (w : A_W) (h : F_M_image_0 t w = some res) : Sm G X w 0 0 [some (.ref t)] [] 0 := by
  unfold F_M_image_0 at h
  refine Sm_run K ek_M_image 0 1 rfl ?_
  obtain ⟨a1, e_a1, h⟩ := Option.bind_eq_some_iff.mp h
  refine Sm_gr K (eo ek_M_image (i := 1) rfl) e_a1 ?_
  refine Sm_run K ek_M_image 2 1 rfl ?_
  obtain ⟨a2, e_a2, h⟩ := Option.bind_eq_some_iff.mp h
  refine Sm_gr K (eo ek_M_image (i := 3) rfl) e_a2 ?_
  obtain ⟨p3, e_p3, h⟩ := Option.bind_eq_some_iff.mp h
  refine Sm_callS K (eok_i (eo ek_M_image (i := 4) rfl) rfl) cy_M_copyAll st_M_copyAll (lgm 984 (by decide +kernel) rfl) ⟨Nat.le_of_ble_eq_true rfl, Nat.le_of_ble_eq_true rfl⟩ (as := [.ref a1, .ref a2]) (st := []) rfl rfl rfl (Nat.le_of_ble_eq_true rfl) ⟨Nat.le_of_ble_eq_true rfl, Nat.le_of_ble_eq_true rfl⟩ (cn_M_copyAll e_p3) ?_
  refine Sm_eq (st1 := []) (nc1 := 0) (ns1 := 0) rfl rfl rfl ?_
  refine Sm_run K ek_M_image 5 2 rfl ?_
  obtain ⟨b5, e_b5, h⟩ := Option.bind_eq_some_iff.mp h
  obtain ⟨w4, e_w4, h⟩ := Option.bind_eq_some_iff.mp h
  refine Sm_pz K (eo ek_M_image (i := 7) rfl) rfl rfl e_b5 e_w4 ?_
  refine Sm_run K ek_M_image 8 1 rfl ?_
  obtain rfl := Option.some.inj h
  exact Sm_reti K hQ (eok_i (eo ek_M_image (i := 9) rfl) rfl)
def F_M_image (t : Nat) (w : A_W) : Option (Int32 × A_W) := F_M_image_0 t w
theorem cn_M_image {G : Gx} {t : Nat} {w : A_W} {res : Int32 × A_W} (h : F_M_image t w = some res) : Cn G y_M_image c_M_image 1 (some .int) rm_M_image [.ref t] w (some (.int res.1)) res.2 :=
  Cn_of (own := 4) cy_M_image rfl rfl (Nat.le_of_ble_eq_true rfl) rfl (fun X K _ hQ => Sm_le (leR_s leR_nil) (s_M_image_0 K hQ _ _ h))
