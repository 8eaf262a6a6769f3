/-! EveningCloakModel.undo()I -/
abbrev c_M_undo : ByteArray := prog_6_method_98_code
def y_M_undo : MethodName := ⟨"EveningCloakModel", "undo", "()I"⟩
def rm_M_undo : Room := { frames := 1, cells := 0, slots := 0, locals := 22 }
theorem cy_M_undo : Cy y_M_undo c_M_undo 1 (some .int) 0 := ⟨lgm 1199 (by decide +kernel) rfl, lgm 73 (by decide +kernel) rfl, by decide +kernel, by decide +kernel⟩
theorem im_M_undo : Cond.instanceMethod y_M_undo ∈ lg := lgm 1197 (by decide +kernel) rfl
theorem se_M_undo : Cond.selects y_M_undo.cls y_M_undo y_M_undo ∈ lg := lgm 1198 (by decide +kernel) rfl
def e_M_undo : List Ent := [
  (0, .aload_n 0, 1, 1, .null, 0, 0, 0),
  (1, .getfield 254, 3, 4, .null, 4, 3, 765),
  (4, .ifCond .ne 10, 3, 14, .null, 0, 0, 0),
  (7, .aload_n 0, 1, 8, .null, 0, 0, 0),
  (8, .ldc 35, 2, 10, .int (-1000004), 0, 0, 933),
  (10, .invokevirtual 36, 3, 13, .null, 0, 0, 0),
  (13, .ireturn, 1, 14, .null, 0, 0, 0),
  (14, .aload_n 0, 1, 15, .null, 0, 0, 0),
  (15, .getfield 13, 3, 18, .null, 4, 1, 763),
  (18, .aload_n 0, 1, 19, .null, 0, 0, 0),
  (19, .getfield 9, 3, 22, .null, 4, 0, 762),
  (22, .invokestatic 138, 3, 25, .null, 0, 0, 0),
  (25, .aload_n 0, 1, 26, .null, 0, 0, 0),
  (26, .getfield 9, 3, 29, .null, 4, 0, 762),
  (29, .iconst 0, 1, 30, .int 0, 0, 0, 0),
  (30, .iaload, 1, 31, .null, 0, 0, 0),
  (31, .ireturn, 1, 32, .null, 0, 0, 0)]
set_option maxRecDepth 100000 in
theorem ek_M_undo : e_M_undo.all (eok 4 c_M_undo) = true := by decide +kernel
def F_M_undo_0 (t : Nat) (w : A_W) : Option (Int32 × A_W) :=
  (gi w t 4 3).bind fun v1 =>
  if v1 = 0 then
    (ob w t 4).bind fun o9 =>
    (F_M_finds t (-1000004) w).bind fun p8 =>
    some (p8.1, p8.2)
  else
    (gr w t 4 1).bind fun a3 =>
    (gr w t 4 0).bind fun a4 =>
    (F_M_copyAll a3 a4 w).bind fun p5 =>
    (gr p5 t 4 0).bind fun a6 =>
    (rd p5 a6 0).bind fun v7 =>
    some (v7, p5)
set_option maxHeartbeats 4000000 in
set_option maxRecDepth 100000 in
theorem s_M_undo_0 {G : Gx} {X : Cx} {res : Int32 × A_W} (K : Ok G X 4 c_M_undo 1 (some .int) rm_M_undo) (hQ : QQ G X (some (.int res.1)) res.2 0 0) (t : Nat) (w : A_W) (h : F_M_undo_0 t w = some res) : Sm G X w 0 0 [some (.ref t)] [] 0 := by
  unfold F_M_undo_0 at h
  refine Sm_run K ek_M_undo 0 1 rfl ?_
  obtain ⟨v1, e_v1, h⟩ := Option.bind_eq_some_iff.mp h
  refine Sm_gi K (eo ek_M_undo (i := 1) rfl) e_v1 ?_
  refine Sm_if_ne K (eo ek_M_undo (i := 2) rfl) (fun c2 => ?_) (fun c2 => ?_)
  · rw [if_neg c2] at h
    refine Sm_run K ek_M_undo 7 1 rfl ?_
    obtain ⟨a3, e_a3, h⟩ := Option.bind_eq_some_iff.mp h
    refine Sm_gr K (eo ek_M_undo (i := 8) rfl) e_a3 ?_
    refine Sm_run K ek_M_undo 9 1 rfl ?_
    obtain ⟨a4, e_a4, h⟩ := Option.bind_eq_some_iff.mp h
    refine Sm_gr K (eo ek_M_undo (i := 10) rfl) e_a4 ?_
    obtain ⟨p5, e_p5, h⟩ := Option.bind_eq_some_iff.mp h
    refine Sm_callS K (eok_i (eo ek_M_undo (i := 11) rfl) rfl) cy_M_copyAll st_M_copyAll (lgm 984 (by decide +kernel) rfl) ⟨Nat.le_of_ble_eq_true rfl, Nat.le_of_ble_eq_true rfl⟩ (as := [.ref a3, .ref a4]) (st := []) rfl rfl rfl (Nat.le_of_ble_eq_true rfl) ⟨Nat.le_of_ble_eq_true rfl, Nat.le_of_ble_eq_true rfl⟩ (cn_M_copyAll e_p5) ?_
    refine Sm_eq (st1 := []) (nc1 := 0) (ns1 := 0) rfl rfl rfl ?_
    refine Sm_run K ek_M_undo 12 1 rfl ?_
    obtain ⟨a6, e_a6, h⟩ := Option.bind_eq_some_iff.mp h
    refine Sm_gr K (eo ek_M_undo (i := 13) rfl) e_a6 ?_
    refine Sm_run K ek_M_undo 14 1 rfl ?_
    obtain ⟨v7, e_v7, h⟩ := Option.bind_eq_some_iff.mp h
    refine Sm_rd K (eok_i (eo ek_M_undo (i := 15) rfl) rfl) e_v7 ?_
    obtain rfl := Option.some.inj h
    exact Sm_reti K hQ (eok_i (eo ek_M_undo (i := 16) rfl) rfl)
  · rw [if_pos c2] at h
    refine Sm_run K ek_M_undo 3 2 rfl ?_
    obtain ⟨o9, e_o9, h⟩ := Option.bind_eq_some_iff.mp h
    obtain ⟨p8, e_p8, h⟩ := Option.bind_eq_some_iff.mp h
    refine Sm_callV K (eok_i (eo ek_M_undo (i := 5) rfl) rfl) cy_M_finds im_M_finds se_M_finds (lgm 826 (by decide +kernel) rfl) ⟨Nat.le_of_ble_eq_true rfl, Nat.le_of_ble_eq_true rfl⟩ (as := [.int (-1000004)]) (b := t) (st := []) (ob_e e_o9) (by decide) rfl rfl rfl rfl (Nat.le_of_ble_eq_true rfl) ⟨Nat.le_of_ble_eq_true rfl, Nat.le_of_ble_eq_true rfl⟩ (cn_M_finds e_p8) ?_
    refine Sm_eq (st1 := .int p8.1 :: []) (nc1 := 0) (ns1 := 0) rfl rfl rfl ?_
    obtain rfl := Option.some.inj h
    exact Sm_reti K hQ (eok_i (eo ek_M_undo (i := 6) rfl) rfl)
def F_M_undo (t : Nat) (w : A_W) : Option (Int32 × A_W) := F_M_undo_0 t w
theorem cn_M_undo {G : Gx} {t : Nat} {w : A_W} {res : Int32 × A_W} (h : F_M_undo t w = some res) : Cn G y_M_undo c_M_undo 1 (some .int) rm_M_undo [.ref t] w (some (.int res.1)) res.2 :=
  Cn_of (own := 4) cy_M_undo rfl rfl (Nat.le_of_ble_eq_true rfl) rfl (fun X K _ hQ => Sm_le (leR_s leR_nil) (s_M_undo_0 K hQ _ _ h))
/-! EveningCloakModel.tear()I -/
abbrev c_M_tear : ByteArray := prog_6_method_99_code
def y_M_tear : MethodName := ⟨"EveningCloakModel", "tear", "()I"⟩
def rm_M_tear : Room := { frames := 0, cells := 0, slots := 0, locals := 0 }
theorem cy_M_tear : Cy y_M_tear c_M_tear 2 (some .int) 0 := ⟨lgm 1203 (by decide +kernel) rfl, lgm 73 (by decide +kernel) rfl, by decide +kernel, by decide +kernel⟩
theorem im_M_tear : Cond.instanceMethod y_M_tear ∈ lg := lgm 1201 (by decide +kernel) rfl
theorem se_M_tear : Cond.selects y_M_tear.cls y_M_tear y_M_tear ∈ lg := lgm 1202 (by decide +kernel) rfl
def e_M_tear : List Ent := [
  (0, .aload_n 0, 1, 1, .null, 0, 0, 0),
  (1, .getfield 254, 3, 4, .null, 4, 3, 765),
  (4, .ifCond .eq 7, 3, 11, .null, 0, 0, 0),
  (7, .iconst 1, 1, 8, .int 1, 0, 0, 0),
  (8, .goto 4, 3, 12, .null, 0, 0, 0),
  (11, .iconst 0, 1, 12, .int 0, 0, 0, 0),
  (12, .istore_n 1, 1, 13, .null, 0, 0, 0),
  (13, .aload_n 0, 1, 14, .null, 0, 0, 0),
  (14, .iconst 0, 1, 15, .int 0, 0, 0, 0),
  (15, .putfield 254, 3, 18, .null, 4, 3, 765),
  (18, .iload_n 1, 1, 19, .null, 0, 0, 0),
  (19, .ireturn, 1, 20, .null, 0, 0, 0)]
set_option maxRecDepth 100000 in
theorem ek_M_tear : e_M_tear.all (eok 4 c_M_tear) = true := by decide +kernel
def F_M_tear_12 (t : Nat) (y0 : Int32) (w : A_W) : Option (Int32 × A_W) :=
  (bz 0).bind fun b2 =>
  (pf w t 4 3 (.int b2)).bind fun w1 =>
  some (y0, w1)
def F_M_tear_0 (t : Nat) (w : A_W) : Option (Int32 × A_W) :=
  (gi w t 4 3).bind fun v1 =>
  if v1 = 0 then
    F_M_tear_12 t 0 w
  else
    F_M_tear_12 t 1 w
set_option maxHeartbeats 4000000 in
set_option maxRecDepth 100000 in
theorem s_M_tear_12 {G : Gx} {X : Cx} {res : Int32 × A_W} (K : Ok G X 4 c_M_tear 2 (some .int) rm_M_tear) (hQ : QQ G X (some (.int res.1)) res.2 0 0) (t : Nat) (y0 : Int32) (w : A_W) (h : F_M_tear_12 t y0 w = some res) : Sm G X w 0 0 [some (.ref t), none] [.int y0] 12 := by
  unfold F_M_tear_12 at h
  refine Sm_run K ek_M_tear 6 3 rfl ?_
  obtain ⟨b2, e_b2, h⟩ := Option.bind_eq_some_iff.mp h
  obtain ⟨w1, e_w1, h⟩ := Option.bind_eq_some_iff.mp h
  refine Sm_pz K (eo ek_M_tear (i := 9) rfl) rfl rfl e_b2 e_w1 ?_
  refine Sm_run K ek_M_tear 10 1 rfl ?_
  obtain rfl := Option.some.inj h
  exact Sm_reti K hQ (eok_i (eo ek_M_tear (i := 11) rfl) rfl)
set_option maxHeartbeats 4000000 in
set_option maxRecDepth 100000 in
theorem s_M_tear_0 {G : Gx} {X : Cx} {res : Int32 × A_W} (K : Ok G X 4 c_M_tear 2 (some .int) rm_M_tear) (hQ : QQ G X (some (.int res.1)) res.2 0 0) (t : Nat) (w : A_W) (h : F_M_tear_0 t w = some res) : Sm G X w 0 0 [some (.ref t), none] [] 0 := by
  unfold F_M_tear_0 at h
  refine Sm_run K ek_M_tear 0 1 rfl ?_
  obtain ⟨v1, e_v1, h⟩ := Option.bind_eq_some_iff.mp h
  refine Sm_gi K (eo ek_M_tear (i := 1) rfl) e_v1 ?_
  refine Sm_if_eq K (eo ek_M_tear (i := 2) rfl) (fun c2 => ?_) (fun c2 => ?_)
  · rw [if_pos c2] at h
    refine Sm_run K ek_M_tear 5 1 rfl ?_
    exact Sm_le (leR_s (leR_n leR_nil)) (s_M_tear_12 K hQ _ _ _ h)
  · rw [if_neg c2] at h
    refine Sm_run K ek_M_tear 3 2 rfl ?_
    exact Sm_le (leR_s (leR_n leR_nil)) (s_M_tear_12 K hQ _ _ _ h)
def F_M_tear (t : Nat) (w : A_W) : Option (Int32 × A_W) := F_M_tear_0 t w
theorem cn_M_tear {G : Gx} {t : Nat} {w : A_W} {res : Int32 × A_W} (h : F_M_tear t w = some res) : Cn G y_M_tear c_M_tear 2 (some .int) rm_M_tear [.ref t] w (some (.int res.1)) res.2 :=
  Cn_of (own := 4) cy_M_tear rfl rfl (Nat.le_of_ble_eq_true rfl) rfl (fun X K _ hQ => Sm_le (leR_s (leR_n leR_nil)) (s_M_tear_0 K hQ _ _ h))
/-! EveningCloakModel.manyHeld()I -/
abbrev c_M_manyHeld : ByteArray := prog_6_method_100_code
def y_M_manyHeld : MethodName := ⟨"EveningCloakModel", "manyHeld", "()I"⟩
def rm_M_manyHeld : Room := { frames := 0, cells := 0, slots := 0, locals := 0 }
theorem cy_M_manyHeld : Cy y_M_manyHeld c_M_manyHeld 3 (some .int) 0 := ⟨lgm 1211 (by decide +kernel) rfl, lgm 73 (by decide +kernel) rfl, by decide +kernel, by decide +kernel⟩
theorem im_M_manyHeld : Cond.instanceMethod y_M_manyHeld ∈ lg := lgm 1210 (by decide +kernel) rfl
theorem se_M_manyHeld : Cond.selects y_M_manyHeld.cls y_M_manyHeld y_M_manyHeld ∈ lg := lgm 66 (by decide +kernel) rfl
def e_M_manyHeld : List Ent := [
  (0, .iconst 0, 1, 1, .int 0, 0, 0, 0),
  (1, .istore_n 1, 1, 2, .null, 0, 0, 0),
  (2, .bipush 77, 2, 4, .int 77, 0, 0, 0),
  (4, .istore_n 2, 1, 5, .null, 0, 0, 0),
  (5, .iload_n 2, 1, 6, .null, 0, 0, 0),
  (6, .bipush 87, 2, 8, .int 87, 0, 0, 0),
  (8, .if_icmp .ge 26, 3, 34, .null, 0, 0, 0),
  (11, .iload_n 1, 1, 12, .null, 0, 0, 0),
  (12, .aload_n 0, 1, 13, .null, 0, 0, 0),
  (13, .getfield 9, 3, 16, .null, 4, 0, 762),
  (16, .iload_n 2, 1, 17, .null, 0, 0, 0),
  (17, .iaload, 1, 18, .null, 0, 0, 0),
  (18, .ifCond .lt 7, 3, 25, .null, 0, 0, 0),
  (21, .iconst 1, 1, 22, .int 1, 0, 0, 0),
  (22, .goto 4, 3, 26, .null, 0, 0, 0),
  (25, .iconst 0, 1, 26, .int 0, 0, 0, 0),
  (26, .iadd, 1, 27, .null, 0, 0, 0),
  (27, .istore_n 1, 1, 28, .null, 0, 0, 0),
  (28, .iinc 2 1, 3, 31, .int 1, 0, 0, 0),
  (31, .goto (-26), 3, 5, .null, 0, 0, 0),
  (34, .iload_n 1, 1, 35, .null, 0, 0, 0),
  (35, .ireturn, 1, 36, .null, 0, 0, 0)]
set_option maxRecDepth 100000 in
theorem ek_M_manyHeld : e_M_manyHeld.all (eok 4 c_M_manyHeld) = true := by decide +kernel
def F_M_manyHeld_26 (k5 : Nat → Int32 → Int32 → A_W → Option (Int32 × A_W)) (t : Nat) (x2 : Int32) (y0 : Int32) (y1 : Int32) (w : A_W) : Option (Int32 × A_W) :=
  k5 t (y0 + y1) (x2 + 1) w
def F_M_manyHeld_5 : Nat → Nat → Int32 → Int32 → A_W → Option (Int32 × A_W)
  | 0, _, _, _, _ => none
  | n + 1, t, x1, x2, w =>
    if 87 ≤ x2 then
      some (x1, w)
    else
      (gr w t 4 0).bind fun a2 =>
      (rd w a2 x2).bind fun v3 =>
      if v3 < 0 then
        F_M_manyHeld_26 (F_M_manyHeld_5 n) t x2 x1 0 w
      else
        F_M_manyHeld_26 (F_M_manyHeld_5 n) t x2 x1 1 w
def F_M_manyHeld_0 (t : Nat) (w : A_W) : Option (Int32 × A_W) :=
  F_M_manyHeld_5 FU t 0 77 w
set_option maxHeartbeats 4000000 in
set_option maxRecDepth 100000 in
theorem s_M_manyHeld_26 {G : Gx} {X : Cx} {res : Int32 × A_W} (K : Ok G X 4 c_M_manyHeld 3 (some .int) rm_M_manyHeld) (hQ : QQ G X (some (.int res.1)) res.2 0 0) {k5 : Nat → Int32 → Int32 → A_W → Option (Int32 × A_W)} (hk5 : ∀ (t : Nat) (x1 : Int32) (x2 : Int32) (w : A_W), k5 t x1 x2 w = some res → Sm G X w 0 0 [some (.ref t), some (.int x1), some (.int x2)] [] 5) (t : Nat) (x2 : Int32) (y0 : Int32) (y1 : Int32) (w : A_W) (h : F_M_manyHeld_26 k5 t x2 y0 y1 w = some res) : Sm G X w 0 0 [some (.ref t), none, some (.int x2)] [.int y1, .int y0] 26 := by
  unfold F_M_manyHeld_26 at h
  refine Sm_run K ek_M_manyHeld 16 4 rfl ?_
  exact Sm_le (leR_s (leR_s (leR_s leR_nil))) (hk5 _ _ _ _ h)
set_option maxHeartbeats 4000000 in
set_option maxRecDepth 100000 in
theorem s_M_manyHeld_5 {G : Gx} {X : Cx} {res : Int32 × A_W} (K : Ok G X 4 c_M_manyHeld 3 (some .int) rm_M_manyHeld) (hQ : QQ G X (some (.int res.1)) res.2 0 0) : ∀ (n : Nat) (t : Nat) (x1 : Int32) (x2 : Int32) (w : A_W), F_M_manyHeld_5 n t x1 x2 w = some res → Sm G X w 0 0 [some (.ref t), some (.int x1), some (.int x2)] [] 5 := by
  intro n
  induction n with
  | zero => intro t x1 x2 w h; cases h
  | succ n ih =>
    intro t x1 x2 w h
    rw [F_M_manyHeld_5] at h
    refine Sm_run K ek_M_manyHeld 4 2 rfl ?_
    refine Sm_ic_ge K (eo ek_M_manyHeld (i := 6) rfl) (fun c1 => ?_) (fun c1 => ?_)
    · rw [if_pos c1] at h
      refine Sm_run K ek_M_manyHeld 20 1 rfl ?_
      obtain rfl := Option.some.inj h
      exact Sm_reti K hQ (eok_i (eo ek_M_manyHeld (i := 21) rfl) rfl)
    · rw [if_neg c1] at h
      refine Sm_run K ek_M_manyHeld 7 2 rfl ?_
      obtain ⟨a2, e_a2, h⟩ := Option.bind_eq_some_iff.mp h
      refine Sm_gr K (eo ek_M_manyHeld (i := 9) rfl) e_a2 ?_
      refine Sm_run K ek_M_manyHeld 10 1 rfl ?_
      obtain ⟨v3, e_v3, h⟩ := Option.bind_eq_some_iff.mp h
      refine Sm_rd K (eok_i (eo ek_M_manyHeld (i := 11) rfl) rfl) e_v3 ?_
      refine Sm_if_lt K (eo ek_M_manyHeld (i := 12) rfl) (fun c4 => ?_) (fun c4 => ?_)
      · rw [if_pos c4] at h
        refine Sm_run K ek_M_manyHeld 15 1 rfl ?_
        exact Sm_le (leR_s (leR_n (leR_s leR_nil))) (s_M_manyHeld_26 K hQ ih _ _ _ _ _ h)
      · rw [if_neg c4] at h
        refine Sm_run K ek_M_manyHeld 13 2 rfl ?_
        exact Sm_le (leR_s (leR_n (leR_s leR_nil))) (s_M_manyHeld_26 K hQ ih _ _ _ _ _ h)
set_option maxHeartbeats 4000000 in
set_option maxRecDepth 100000 in
theorem s_M_manyHeld_0 {G : Gx} {X : Cx} {res : Int32 × A_W} (K : Ok G X 4 c_M_manyHeld 3 (some .int) rm_M_manyHeld) (hQ : QQ G X (some (.int res.1)) res.2 0 0) (t : Nat) (w : A_W) (h : F_M_manyHeld_0 t w = some res) : Sm G X w 0 0 [some (.ref t), none, none] [] 0 := by
  unfold F_M_manyHeld_0 at h
  refine Sm_run K ek_M_manyHeld 0 4 rfl ?_
  exact Sm_le (leR_s (leR_s (leR_s leR_nil))) (s_M_manyHeld_5 K hQ FU _ _ _ _ h)
def F_M_manyHeld (t : Nat) (w : A_W) : Option (Int32 × A_W) := F_M_manyHeld_0 t w
theorem cn_M_manyHeld {G : Gx} {t : Nat} {w : A_W} {res : Int32 × A_W} (h : F_M_manyHeld t w = some res) : Cn G y_M_manyHeld c_M_manyHeld 3 (some .int) rm_M_manyHeld [.ref t] w (some (.int res.1)) res.2 :=
  Cn_of (own := 4) cy_M_manyHeld rfl rfl (Nat.le_of_ble_eq_true rfl) rfl (fun X K _ hQ => Sm_le (leR_s (leR_n (leR_n leR_nil))) (s_M_manyHeld_0 K hQ _ _ h))
/-! EveningCloakModel.count(I)I -/
abbrev c_M_count : ByteArray := prog_6_method_101_code
def y_M_count : MethodName := ⟨"EveningCloakModel", "count", "(I)I"⟩
def rm_M_count : Room := { frames := 2, cells := 0, slots := 0, locals := 45 }
theorem cy_M_count : Cy y_M_count c_M_count 2 (some .int) 1 := ⟨lgm 1207 (by decide +kernel) rfl, lgm 73 (by decide +kernel) rfl, by decide +kernel, by decide +kernel⟩
theorem im_M_count : Cond.instanceMethod y_M_count ∈ lg := lgm 1205 (by decide +kernel) rfl
theorem se_M_count : Cond.selects y_M_count.cls y_M_count y_M_count ∈ lg := lgm 1206 (by decide +kernel) rfl
def e_M_count : List Ent := [
  (0, .iload_n 1, 1, 1, .null, 0, 0, 0),
  (1, .tableswitch 98 0 7 #[47, 54, 61, 68, 75, 81, 86, 93], 47, 48, .null, 0, 0, 0),
  (48, .aload_n 0, 1, 49, .null, 0, 0, 0),
  (49, .getfield 9, 3, 52, .null, 4, 0, 762),
  (52, .iconst 0, 1, 53, .int 0, 0, 0, 0),
  (53, .iaload, 1, 54, .null, 0, 0, 0),
  (54, .ireturn, 1, 55, .null, 0, 0, 0),
  (55, .aload_n 0, 1, 56, .null, 0, 0, 0),
  (56, .getfield 9, 3, 59, .null, 4, 0, 762),
  (59, .iconst 3, 1, 60, .int 3, 0, 0, 0),
  (60, .iaload, 1, 61, .null, 0, 0, 0),
  (61, .ireturn, 1, 62, .null, 0, 0, 0),
  (62, .aload_n 0, 1, 63, .null, 0, 0, 0),
  (63, .getfield 9, 3, 66, .null, 4, 0, 762),
  (66, .iconst 4, 1, 67, .int 4, 0, 0, 0),
  (67, .iaload, 1, 68, .null, 0, 0, 0),
  (68, .ireturn, 1, 69, .null, 0, 0, 0),
  (69, .aload_n 0, 1, 70, .null, 0, 0, 0),
  (70, .getfield 9, 3, 73, .null, 4, 0, 762),
  (73, .iconst 1, 1, 74, .int 1, 0, 0, 0),
  (74, .iaload, 1, 75, .null, 0, 0, 0),
  (75, .ireturn, 1, 76, .null, 0, 0, 0),
  (76, .aload_n 0, 1, 77, .null, 0, 0, 0),
  (77, .iconst 2, 1, 78, .int 2, 0, 0, 0),
  (78, .invokevirtual 126, 3, 81, .null, 0, 0, 0),
  (81, .ireturn, 1, 82, .null, 0, 0, 0),
  (82, .aload_n 0, 1, 83, .null, 0, 0, 0),
  (83, .getfield 189, 3, 86, .null, 4, 9, 771),
  (86, .ireturn, 1, 87, .null, 0, 0, 0),
  (87, .aload_n 0, 1, 88, .null, 0, 0, 0),
  (88, .getfield 9, 3, 91, .null, 4, 0, 762),
  (91, .iconst 2, 1, 92, .int 2, 0, 0, 0),
  (92, .iaload, 1, 93, .null, 0, 0, 0),
  (93, .ireturn, 1, 94, .null, 0, 0, 0),
  (94, .aload_n 0, 1, 95, .null, 0, 0, 0),
  (95, .invokevirtual 257, 3, 98, .null, 0, 0, 0),
  (98, .ireturn, 1, 99, .null, 0, 0, 0),
  (99, .aload_n 0, 1, 100, .null, 0, 0, 0),
  (100, .ldc 34, 2, 102, .int (-1000001), 0, 0, 825),
  (102, .invokevirtual 36, 3, 105, .null, 0, 0, 0),
  (105, .ireturn, 1, 106, .null, 0, 0, 0)]
set_option maxRecDepth 100000 in
theorem ek_M_count : e_M_count.all (eok 4 c_M_count) = true := by decide +kernel
def F_M_count_0 (t : Nat) (x1 : Int32) (w : A_W) : Option (Int32 × A_W) :=
  if x1 = 0 then
    (gr w t 4 0).bind fun a1 =>
    (rd w a1 0).bind fun v2 =>
    some (v2, w)
  else if x1 = 1 then
    (gr w t 4 0).bind fun a3 =>
    (rd w a3 3).bind fun v4 =>
    some (v4, w)
  else if x1 = 2 then
    (gr w t 4 0).bind fun a5 =>
    (rd w a5 4).bind fun v6 =>
    some (v6, w)
  else if x1 = 3 then
    (gr w t 4 0).bind fun a7 =>
    (rd w a7 1).bind fun v8 =>
    some (v8, w)
  else if x1 = 4 then
    (ob w t 4).bind fun o10 =>
    (F_M_sums t 2 w).bind fun p9 =>
    some (p9.1, p9.2)
  else if x1 = 5 then
    (gi w t 4 9).bind fun v11 =>
    some (v11, w)
  else if x1 = 6 then
    (gr w t 4 0).bind fun a12 =>
    (rd w a12 2).bind fun v13 =>
    some (v13, w)
  else if x1 = 7 then
    (ob w t 4).bind fun o15 =>
    (F_M_manyHeld t w).bind fun p14 =>
    some (p14.1, p14.2)
  else
    (ob w t 4).bind fun o17 =>
    (F_M_finds t (-1000001) w).bind fun p16 =>
    some (p16.1, p16.2)
set_option maxHeartbeats 4000000 in
set_option maxRecDepth 100000 in
theorem s_M_count_0 {G : Gx} {X : Cx} {res : Int32 × A_W} (K : Ok G X 4 c_M_count 2 (some .int) rm_M_count) (hQ : QQ G X (some (.int res.1)) res.2 0 0) (t : Nat) (x1 : Int32) (w : A_W) (h : F_M_count_0 t x1 w = some res) : Sm G X w 0 0 [some (.ref t), some (.int x1)] [] 0 := by
  unfold F_M_count_0 at h
  refine Sm_run K ek_M_count 0 1 rfl ?_
  refine Sm_tsw K (eok_d (eo ek_M_count (i := 1) rfl)) [48, 55, 62, 69, 76, 82, 87, 94] 99 (by decide) (by decide) (by decide) (fun j hj hx => ?_) (fun hx => ?_)
  · have hj : j < 8 := hj
    rcases (show j = 0 ∨ j = 1 ∨ j = 2 ∨ j = 3 ∨ j = 4 ∨ j = 5 ∨ j = 6 ∨ j = 7 by omega) with rfl | rfl | rfl | rfl | rfl | rfl | rfl | rfl
    · have hc : x1 = 0 := Int32.toInt_inj.mp (hx.trans (by decide))
      rw [if_pos hc] at h
      refine Sm_pc (pc1 := 48) rfl ?_
      refine Sm_run K ek_M_count 2 1 rfl ?_
      obtain ⟨a1, e_a1, h⟩ := Option.bind_eq_some_iff.mp h
      refine Sm_gr K (eo ek_M_count (i := 3) rfl) e_a1 ?_
      refine Sm_run K ek_M_count 4 1 rfl ?_
      obtain ⟨v2, e_v2, h⟩ := Option.bind_eq_some_iff.mp h
      refine Sm_rd K (eok_i (eo ek_M_count (i := 5) rfl) rfl) e_v2 ?_
      obtain rfl := Option.some.inj h
      exact Sm_reti K hQ (eok_i (eo ek_M_count (i := 6) rfl) rfl)
    · have hc : x1 = 1 := Int32.toInt_inj.mp (hx.trans (by decide))
      rw [if_neg (by rw [hc]; decide), if_pos hc] at h
      refine Sm_pc (pc1 := 55) rfl ?_
      refine Sm_run K ek_M_count 7 1 rfl ?_
      obtain ⟨a3, e_a3, h⟩ := Option.bind_eq_some_iff.mp h
      refine Sm_gr K (eo ek_M_count (i := 8) rfl) e_a3 ?_
      refine Sm_run K ek_M_count 9 1 rfl ?_
      obtain ⟨v4, e_v4, h⟩ := Option.bind_eq_some_iff.mp h
      refine Sm_rd K (eok_i (eo ek_M_count (i := 10) rfl) rfl) e_v4 ?_
      obtain rfl := Option.some.inj h
      exact Sm_reti K hQ (eok_i (eo ek_M_count (i := 11) rfl) rfl)
    · have hc : x1 = 2 := Int32.toInt_inj.mp (hx.trans (by decide))
      rw [if_neg (by rw [hc]; decide), if_neg (by rw [hc]; decide), if_pos hc] at h
      refine Sm_pc (pc1 := 62) rfl ?_
      refine Sm_run K ek_M_count 12 1 rfl ?_
      obtain ⟨a5, e_a5, h⟩ := Option.bind_eq_some_iff.mp h
      refine Sm_gr K (eo ek_M_count (i := 13) rfl) e_a5 ?_
      refine Sm_run K ek_M_count 14 1 rfl ?_
      obtain ⟨v6, e_v6, h⟩ := Option.bind_eq_some_iff.mp h
      refine Sm_rd K (eok_i (eo ek_M_count (i := 15) rfl) rfl) e_v6 ?_
      obtain rfl := Option.some.inj h
      exact Sm_reti K hQ (eok_i (eo ek_M_count (i := 16) rfl) rfl)
    · have hc : x1 = 3 := Int32.toInt_inj.mp (hx.trans (by decide))
      rw [if_neg (by rw [hc]; decide), if_neg (by rw [hc]; decide), if_neg (by rw [hc]; decide), if_pos hc] at h
      refine Sm_pc (pc1 := 69) rfl ?_
      refine Sm_run K ek_M_count 17 1 rfl ?_
      obtain ⟨a7, e_a7, h⟩ := Option.bind_eq_some_iff.mp h
      refine Sm_gr K (eo ek_M_count (i := 18) rfl) e_a7 ?_
      refine Sm_run K ek_M_count 19 1 rfl ?_
      obtain ⟨v8, e_v8, h⟩ := Option.bind_eq_some_iff.mp h
      refine Sm_rd K (eok_i (eo ek_M_count (i := 20) rfl) rfl) e_v8 ?_
      obtain rfl := Option.some.inj h
      exact Sm_reti K hQ (eok_i (eo ek_M_count (i := 21) rfl) rfl)
    · have hc : x1 = 4 := Int32.toInt_inj.mp (hx.trans (by decide))
      rw [if_neg (by rw [hc]; decide), if_neg (by rw [hc]; decide), if_neg (by rw [hc]; decide), if_neg (by rw [hc]; decide), if_pos hc] at h
      refine Sm_pc (pc1 := 76) rfl ?_
      refine Sm_run K ek_M_count 22 2 rfl ?_
      obtain ⟨o10, e_o10, h⟩ := Option.bind_eq_some_iff.mp h
      obtain ⟨p9, e_p9, h⟩ := Option.bind_eq_some_iff.mp h
      refine Sm_callV K (eok_i (eo ek_M_count (i := 24) rfl) rfl) cy_M_sums im_M_sums se_M_sums (lgm 960 (by decide +kernel) rfl) ⟨Nat.le_of_ble_eq_true rfl, Nat.le_of_ble_eq_true rfl⟩ (as := [.int 2]) (b := t) (st := []) (ob_e e_o10) (by decide) rfl rfl rfl rfl (Nat.le_of_ble_eq_true rfl) ⟨Nat.le_of_ble_eq_true rfl, Nat.le_of_ble_eq_true rfl⟩ (cn_M_sums e_p9) ?_
      refine Sm_eq (st1 := .int p9.1 :: []) (nc1 := 0) (ns1 := 0) rfl rfl rfl ?_
      obtain rfl := Option.some.inj h
      exact Sm_reti K hQ (eok_i (eo ek_M_count (i := 25) rfl) rfl)
    · have hc : x1 = 5 := Int32.toInt_inj.mp (hx.trans (by decide))
      rw [if_neg (by rw [hc]; decide), if_neg (by rw [hc]; decide), if_neg (by rw [hc]; decide), if_neg (by rw [hc]; decide), if_neg (by rw [hc]; decide), if_pos hc] at h
      refine Sm_pc (pc1 := 82) rfl ?_
      refine Sm_run K ek_M_count 26 1 rfl ?_
      obtain ⟨v11, e_v11, h⟩ := Option.bind_eq_some_iff.mp h
      refine Sm_gi K (eo ek_M_count (i := 27) rfl) e_v11 ?_
      obtain rfl := Option.some.inj h
      exact Sm_reti K hQ (eok_i (eo ek_M_count (i := 28) rfl) rfl)
    · have hc : x1 = 6 := Int32.toInt_inj.mp (hx.trans (by decide))
      rw [if_neg (by rw [hc]; decide), if_neg (by rw [hc]; decide), if_neg (by rw [hc]; decide), if_neg (by rw [hc]; decide), if_neg (by rw [hc]; decide), if_neg (by rw [hc]; decide), if_pos hc] at h
      refine Sm_pc (pc1 := 87) rfl ?_
      refine Sm_run K ek_M_count 29 1 rfl ?_
      obtain ⟨a12, e_a12, h⟩ := Option.bind_eq_some_iff.mp h
      refine Sm_gr K (eo ek_M_count (i := 30) rfl) e_a12 ?_
      refine Sm_run K ek_M_count 31 1 rfl ?_
      obtain ⟨v13, e_v13, h⟩ := Option.bind_eq_some_iff.mp h
      refine Sm_rd K (eok_i (eo ek_M_count (i := 32) rfl) rfl) e_v13 ?_
      obtain rfl := Option.some.inj h
      exact Sm_reti K hQ (eok_i (eo ek_M_count (i := 33) rfl) rfl)
    · have hc : x1 = 7 := Int32.toInt_inj.mp (hx.trans (by decide))
      rw [if_neg (by rw [hc]; decide), if_neg (by rw [hc]; decide), if_neg (by rw [hc]; decide), if_neg (by rw [hc]; decide), if_neg (by rw [hc]; decide), if_neg (by rw [hc]; decide), if_neg (by rw [hc]; decide), if_pos hc] at h
      refine Sm_pc (pc1 := 94) rfl ?_
      refine Sm_run K ek_M_count 34 1 rfl ?_
      obtain ⟨o15, e_o15, h⟩ := Option.bind_eq_some_iff.mp h
      obtain ⟨p14, e_p14, h⟩ := Option.bind_eq_some_iff.mp h
      refine Sm_callV K (eok_i (eo ek_M_count (i := 35) rfl) rfl) cy_M_manyHeld im_M_manyHeld se_M_manyHeld (lgm 1208 (by decide +kernel) rfl) ⟨Nat.le_of_ble_eq_true rfl, Nat.le_of_ble_eq_true rfl⟩ (as := []) (b := t) (st := []) (ob_e e_o15) (by decide) rfl rfl rfl rfl (Nat.le_of_ble_eq_true rfl) ⟨Nat.le_of_ble_eq_true rfl, Nat.le_of_ble_eq_true rfl⟩ (cn_M_manyHeld e_p14) ?_
      refine Sm_eq (st1 := .int p14.1 :: []) (nc1 := 0) (ns1 := 0) rfl rfl rfl ?_
      obtain rfl := Option.some.inj h
      exact Sm_reti K hQ (eok_i (eo ek_M_count (i := 36) rfl) rfl)
  · rw [if_neg (fun hc => hx 0 (by decide) (by rw [hc]; decide)), if_neg (fun hc => hx 1 (by decide) (by rw [hc]; decide)), if_neg (fun hc => hx 2 (by decide) (by rw [hc]; decide)), if_neg (fun hc => hx 3 (by decide) (by rw [hc]; decide)), if_neg (fun hc => hx 4 (by decide) (by rw [hc]; decide)), if_neg (fun hc => hx 5 (by decide) (by rw [hc]; decide)), if_neg (fun hc => hx 6 (by decide) (by rw [hc]; decide)), if_neg (fun hc => hx 7 (by decide) (by rw [hc]; decide))] at h
    refine Sm_run K ek_M_count 37 2 rfl ?_
    obtain ⟨o17, e_o17, h⟩ := Option.bind_eq_some_iff.mp h
    obtain ⟨p16, e_p16, h⟩ := Option.bind_eq_some_iff.mp h
    refine Sm_callV K (eok_i (eo ek_M_count (i := 39) rfl) rfl) cy_M_finds im_M_finds se_M_finds (lgm 826 (by decide +kernel) rfl) ⟨Nat.le_of_ble_eq_true rfl, Nat.le_of_ble_eq_true rfl⟩ (as := [.int (-1000001)]) (b := t) (st := []) (ob_e e_o17) (by decide) rfl rfl rfl rfl (Nat.le_of_ble_eq_true rfl) ⟨Nat.le_of_ble_eq_true rfl, Nat.le_of_ble_eq_true rfl⟩ (cn_M_finds e_p16) ?_
    refine Sm_eq (st1 := .int p16.1 :: []) (nc1 := 0) (ns1 := 0) rfl rfl rfl ?_
    obtain rfl := Option.some.inj h
    exact Sm_reti K hQ (eok_i (eo ek_M_count (i := 40) rfl) rfl)
def F_M_count (t : Nat) (x1 : Int32) (w : A_W) : Option (Int32 × A_W) := F_M_count_0 t x1 w
theorem cn_M_count {G : Gx} {t : Nat} {x1 : Int32} {w : A_W} {res : Int32 × A_W} (h : F_M_count t x1 w = some res) : Cn G y_M_count c_M_count 2 (some .int) rm_M_count [.ref t, .int x1] w (some (.int res.1)) res.2 :=
  Cn_of (own := 4) cy_M_count rfl rfl (Nat.le_of_ble_eq_true rfl) rfl (fun X K _ hQ => Sm_le (leR_s (leR_s leR_nil)) (s_M_count_0 K hQ _ _ _ h))
/-! EveningCloakModel.status(I)I -/
abbrev c_M_status : ByteArray := prog_6_method_102_code
def y_M_status : MethodName := ⟨"EveningCloakModel", "status", "(I)I"⟩
def rm_M_status : Room := { frames := 1, cells := 0, slots := 0, locals := 22 }
theorem cy_M_status : Cy y_M_status c_M_status 4 (some .int) 1 := ⟨lgm 1215 (by decide +kernel) rfl, lgm 73 (by decide +kernel) rfl, by decide +kernel, by decide +kernel⟩
theorem im_M_status : Cond.instanceMethod y_M_status ∈ lg := lgm 1213 (by decide +kernel) rfl
theorem se_M_status : Cond.selects y_M_status.cls y_M_status y_M_status ∈ lg := lgm 1214 (by decide +kernel) rfl
def e_M_status : List Ent := [
  (0, .iload_n 1, 1, 1, .null, 0, 0, 0),
  (1, .iconst (-1), 1, 2, .int (-1), 0, 0, 0),
  (2, .bipush 6, 2, 4, .int 6, 0, 0, 0),
  (4, .invokestatic 40, 3, 7, .null, 0, 0, 0),
  (7, .ifCond .ne 10, 3, 17, .null, 0, 0, 0),
  (10, .aload_n 0, 1, 11, .null, 0, 0, 0),
  (11, .ldc 34, 2, 13, .int (-1000001), 0, 0, 825),
  (13, .invokevirtual 36, 3, 16, .null, 0, 0, 0),
  (16, .ireturn, 1, 17, .null, 0, 0, 0),
  (17, .iconst 0, 1, 18, .int 0, 0, 0, 0),
  (18, .istore_n 2, 1, 19, .null, 0, 0, 0),
  (19, .iconst 0, 1, 20, .int 0, 0, 0, 0),
  (20, .istore_n 3, 1, 21, .null, 0, 0, 0),
  (21, .iload_n 3, 1, 22, .null, 0, 0, 0),
  (22, .bipush 7, 2, 24, .int 7, 0, 0, 0),
  (24, .if_icmp .ge 31, 3, 55, .null, 0, 0, 0),
  (27, .iload_n 2, 1, 28, .null, 0, 0, 0),
  (28, .iload_n 1, 1, 29, .null, 0, 0, 0),
  (29, .ifCond .lt 8, 3, 37, .null, 0, 0, 0),
  (32, .iload_n 1, 1, 33, .null, 0, 0, 0),
  (33, .iload_n 3, 1, 34, .null, 0, 0, 0),
  (34, .if_icmp .ne 12, 3, 46, .null, 0, 0, 0),
  (37, .aload_n 0, 1, 38, .null, 0, 0, 0),
  (38, .getfield 19, 3, 41, .null, 4, 4, 766),
  (41, .iload_n 3, 1, 42, .null, 0, 0, 0),
  (42, .iaload, 1, 43, .null, 0, 0, 0),
  (43, .goto 4, 3, 47, .null, 0, 0, 0),
  (46, .iconst 0, 1, 47, .int 0, 0, 0, 0),
  (47, .iadd, 1, 48, .null, 0, 0, 0),
  (48, .istore_n 2, 1, 49, .null, 0, 0, 0),
  (49, .iinc 3 1, 3, 52, .int 1, 0, 0, 0),
  (52, .goto (-31), 3, 21, .null, 0, 0, 0),
  (55, .iload_n 2, 1, 56, .null, 0, 0, 0),
  (56, .ireturn, 1, 57, .null, 0, 0, 0)]
set_option maxRecDepth 100000 in
theorem ek_M_status : e_M_status.all (eok 4 c_M_status) = true := by decide +kernel
def F_M_status_47 (k21 : Nat → Int32 → Int32 → Int32 → A_W → Option (Int32 × A_W)) (t : Nat) (x1 : Int32) (x3 : Int32) (y0 : Int32) (y1 : Int32) (w : A_W) : Option (Int32 × A_W) :=
  k21 t x1 (y0 + y1) (x3 + 1) w
def F_M_status_37 (k21 : Nat → Int32 → Int32 → Int32 → A_W → Option (Int32 × A_W)) (t : Nat) (x1 : Int32) (x3 : Int32) (y0 : Int32) (w : A_W) : Option (Int32 × A_W) :=
  (gr w t 4 4).bind fun a1 =>
  (rd w a1 x3).bind fun v2 =>
  F_M_status_47 k21 t x1 x3 y0 v2 w
def F_M_status_21 : Nat → Nat → Int32 → Int32 → Int32 → A_W → Option (Int32 × A_W)
  | 0, _, _, _, _, _ => none
  | n + 1, t, x1, x2, x3, w =>
    if 7 ≤ x3 then
      some (x2, w)
    else
      if x1 < 0 then
        F_M_status_37 (F_M_status_21 n) t x1 x3 x2 w
      else
        if x1 = x3 then
          F_M_status_37 (F_M_status_21 n) t x1 x3 x2 w
        else
          F_M_status_47 (F_M_status_21 n) t x1 x3 x2 0 w
def F_M_status_0 (t : Nat) (x1 : Int32) (w : A_W) : Option (Int32 × A_W) :=
  (F_M_in x1 (-1) 6 w).bind fun p1 =>
  if p1.1 = 0 then
    (ob p1.2 t 4).bind fun o4 =>
    (F_M_finds t (-1000001) p1.2).bind fun p3 =>
    some (p3.1, p3.2)
  else
    F_M_status_21 FU t x1 0 0 p1.2
set_option maxHeartbeats 4000000 in
set_option maxRecDepth 100000 in
theorem s_M_status_47 {G : Gx} {X : Cx} {res : Int32 × A_W} (K : Ok G X 4 c_M_status 4 (some .int) rm_M_status) (hQ : QQ G X (some (.int res.1)) res.2 0 0) {k21 : Nat → Int32 → Int32 → Int32 → A_W → Option (Int32 × A_W)} (hk21 : ∀ (t : Nat) (x1 : Int32) (x2 : Int32) (x3 : Int32) (w : A_W), k21 t x1 x2 x3 w = some res → Sm G X w 0 0 [some (.ref t), some (.int x1), some (.int x2), some (.int x3)] [] 21) (t : Nat) (x1 : Int32) (x3 : Int32) (y0 : Int32) (y1 : Int32) (w : A_W) (h : F_M_status_47 k21 t x1 x3 y0 y1 w = some res) : Sm G X w 0 0 [some (.ref t), some (.int x1), none, some (.int x3)] [.int y1, .int y0] 47 := by
  unfold F_M_status_47 at h
  refine Sm_run K ek_M_status 28 4 rfl ?_
  exact Sm_le (leR_s (leR_s (leR_s (leR_s leR_nil)))) (hk21 _ _ _ _ _ h)
set_option maxHeartbeats 4000000 in
set_option maxRecDepth 100000 in
theorem s_M_status_37 {G : Gx} {X : Cx} {res : Int32 × A_W} (K : Ok G X 4 c_M_status 4 (some .int) rm_M_status) (hQ : QQ G X (some (.int res.1)) res.2 0 0) {k21 : Nat → Int32 → Int32 → Int32 → A_W → Option (Int32 × A_W)} (hk21 : ∀ (t : Nat) (x1 : Int32) (x2 : Int32) (x3 : Int32) (w : A_W), k21 t x1 x2 x3 w = some res → Sm G X w 0 0 [some (.ref t), some (.int x1), some (.int x2), some (.int x3)] [] 21) (t : Nat) (x1 : Int32) (x3 : Int32) (y0 : Int32) (w : A_W) (h : F_M_status_37 k21 t x1 x3 y0 w = some res) : Sm G X w 0 0 [some (.ref t), some (.int x1), none, some (.int x3)] [.int y0] 37 := by
  unfold F_M_status_37 at h
  refine Sm_run K ek_M_status 22 1 rfl ?_
  obtain ⟨a1, e_a1, h⟩ := Option.bind_eq_some_iff.mp h
  refine Sm_gr K (eo ek_M_status (i := 23) rfl) e_a1 ?_
  refine Sm_run K ek_M_status 24 1 rfl ?_
  obtain ⟨v2, e_v2, h⟩ := Option.bind_eq_some_iff.mp h
  refine Sm_rd K (eok_i (eo ek_M_status (i := 25) rfl) rfl) e_v2 ?_
  refine Sm_run K ek_M_status 26 1 rfl ?_
  exact Sm_le (leR_s (leR_s (leR_n (leR_s leR_nil)))) (s_M_status_47 K hQ hk21 _ _ _ _ _ _ h)
set_option maxHeartbeats 4000000 in
set_option maxRecDepth 100000 in
theorem s_M_status_21 {G : Gx} {X : Cx} {res : Int32 × A_W} (K : Ok G X 4 c_M_status 4 (some .int) rm_M_status) (hQ : QQ G X (some (.int res.1)) res.2 0 0) : ∀ (n : Nat) (t : Nat) (x1 : Int32) (x2 : Int32) (x3 : Int32) (w : A_W), F_M_status_21 n t x1 x2 x3 w = some res → Sm G X w 0 0 [some (.ref t), some (.int x1), some (.int x2), some (.int x3)] [] 21 := by
  intro n
  induction n with
  | zero => intro t x1 x2 x3 w h; cases h
  | succ n ih =>
    intro t x1 x2 x3 w h
    rw [F_M_status_21] at h
    refine Sm_run K ek_M_status 13 2 rfl ?_
    refine Sm_ic_ge K (eo ek_M_status (i := 15) rfl) (fun c1 => ?_) (fun c1 => ?_)
    · rw [if_pos c1] at h
      refine Sm_run K ek_M_status 32 1 rfl ?_
      obtain rfl := Option.some.inj h
      exact Sm_reti K hQ (eok_i (eo ek_M_status (i := 33) rfl) rfl)
    · rw [if_neg c1] at h
      refine Sm_run K ek_M_status 16 2 rfl ?_
      refine Sm_if_lt K (eo ek_M_status (i := 18) rfl) (fun c2 => ?_) (fun c2 => ?_)
      · rw [if_pos c2] at h
        exact Sm_le (leR_s (leR_s (leR_n (leR_s leR_nil)))) (s_M_status_37 K hQ ih _ _ _ _ _ h)
      · rw [if_neg c2] at h
        refine Sm_run K ek_M_status 19 2 rfl ?_
        refine Sm_ic_ne K (eo ek_M_status (i := 21) rfl) (fun c3 => ?_) (fun c3 => ?_)
        · rw [if_neg c3] at h
          refine Sm_run K ek_M_status 27 1 rfl ?_
          exact Sm_le (leR_s (leR_s (leR_n (leR_s leR_nil)))) (s_M_status_47 K hQ ih _ _ _ _ _ _ h)
        · rw [if_pos c3] at h
          exact Sm_le (leR_s (leR_s (leR_n (leR_s leR_nil)))) (s_M_status_37 K hQ ih _ _ _ _ _ h)
set_option maxHeartbeats 4000000 in
set_option maxRecDepth 100000 in
theorem s_M_status_0 {G : Gx} {X : Cx} {res : Int32 × A_W} (K : Ok G X 4 c_M_status 4 (some .int) rm_M_status) (hQ : QQ G X (some (.int res.1)) res.2 0 0) (t : Nat) (x1 : Int32) (w : A_W) (h : F_M_status_0 t x1 w = some res) : Sm G X w 0 0 [some (.ref t), some (.int x1), none, none] [] 0 := by
  unfold F_M_status_0 at h
  refine Sm_run K ek_M_status 0 3 rfl ?_
  obtain ⟨p1, e_p1, h⟩ := Option.bind_eq_some_iff.mp h
  refine Sm_callS K (eok_i (eo ek_M_status (i := 3) rfl) rfl) cy_M_in st_M_in (lgm 815 (by decide +kernel) rfl) ⟨Nat.le_of_ble_eq_true rfl, Nat.le_of_ble_eq_true rfl⟩ (as := [.int x1, .int (-1), .int 6]) (st := []) rfl rfl rfl (Nat.le_of_ble_eq_true rfl) ⟨Nat.le_of_ble_eq_true rfl, Nat.le_of_ble_eq_true rfl⟩ (cn_M_in e_p1) ?_
  refine Sm_eq (st1 := .int p1.1 :: []) (nc1 := 0) (ns1 := 0) rfl rfl rfl ?_
  refine Sm_if_ne K (eo ek_M_status (i := 4) rfl) (fun c2 => ?_) (fun c2 => ?_)
  · rw [if_neg c2] at h
    refine Sm_run K ek_M_status 9 4 rfl ?_
    exact Sm_le (leR_s (leR_s (leR_s (leR_s leR_nil)))) (s_M_status_21 K hQ FU _ _ _ _ _ h)
  · rw [if_pos c2] at h
    refine Sm_run K ek_M_status 5 2 rfl ?_
    obtain ⟨o4, e_o4, h⟩ := Option.bind_eq_some_iff.mp h
    obtain ⟨p3, e_p3, h⟩ := Option.bind_eq_some_iff.mp h
    refine Sm_callV K (eok_i (eo ek_M_status (i := 7) rfl) rfl) cy_M_finds im_M_finds se_M_finds (lgm 826 (by decide +kernel) rfl) ⟨Nat.le_of_ble_eq_true rfl, Nat.le_of_ble_eq_true rfl⟩ (as := [.int (-1000001)]) (b := t) (st := []) (ob_e e_o4) (by decide) rfl rfl rfl rfl (Nat.le_of_ble_eq_true rfl) ⟨Nat.le_of_ble_eq_true rfl, Nat.le_of_ble_eq_true rfl⟩ (cn_M_finds e_p3) ?_
    refine Sm_eq (st1 := .int p3.1 :: []) (nc1 := 0) (ns1 := 0) rfl rfl rfl ?_
    obtain rfl := Option.some.inj h
    exact Sm_reti K hQ (eok_i (eo ek_M_status (i := 8) rfl) rfl)
def F_M_status (t : Nat) (x1 : Int32) (w : A_W) : Option (Int32 × A_W) := F_M_status_0 t x1 w
theorem cn_M_status {G : Gx} {t : Nat} {x1 : Int32} {w : A_W} {res : Int32 × A_W} (h : F_M_status t x1 w = some res) : Cn G y_M_status c_M_status 4 (some .int) rm_M_status [.ref t, .int x1] w (some (.int res.1)) res.2 :=
  Cn_of (own := 4) cy_M_status rfl rfl (Nat.le_of_ble_eq_true rfl) rfl (fun X K _ hQ => Sm_le (leR_s (leR_s (leR_n (leR_n leR_nil)))) (s_M_status_0 K hQ _ _ _ h))
