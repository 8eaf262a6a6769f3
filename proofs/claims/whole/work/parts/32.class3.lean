/-! EveningCloak$Room.darkHangers()I -/
abbrev c_R_darkHangers : ByteArray := prog_3_method_25_code
def y_R_darkHangers : MethodName := ⟨"EveningCloak$Room", "darkHangers", "()I"⟩
def rm_R_darkHangers : Room := { frames := 3, cells := 0, slots := 0, locals := 68 }
theorem cy_R_darkHangers : Cy y_R_darkHangers c_R_darkHangers 3 (some .int) 0 := ⟨lgm 399 (by decide +kernel) rfl, lgm 69 (by decide +kernel) rfl, by decide +kernel, by decide +kernel⟩
theorem im_R_darkHangers : Cond.instanceMethod y_R_darkHangers ∈ lg := lgm 397 (by decide +kernel) rfl
theorem se_R_darkHangers : Cond.selects y_R_darkHangers.cls y_R_darkHangers y_R_darkHangers ∈ lg := lgm 398 (by decide +kernel) rfl
def e_R_darkHangers : List Ent := [
  (0, .iconst 0, 1, 1, .int 0, 0, 0, 0),
  (1, .istore_n 1, 1, 2, .null, 0, 0, 0),
  (2, .iconst 0, 1, 3, .int 0, 0, 0, 0),
  (3, .istore_n 2, 1, 4, .null, 0, 0, 0),
  (4, .iload_n 2, 1, 5, .null, 0, 0, 0),
  (5, .bipush 16, 2, 7, .int 16, 0, 0, 0),
  (7, .if_icmp .ge 23, 3, 30, .null, 0, 0, 0),
  (10, .aload_n 0, 1, 11, .null, 0, 0, 0),
  (11, .iload_n 2, 1, 12, .null, 0, 0, 0),
  (12, .invokevirtual 103, 3, 15, .null, 0, 0, 0),
  (15, .ifCond .ne 9, 3, 24, .null, 0, 0, 0),
  (18, .iload_n 1, 1, 19, .null, 0, 0, 0),
  (19, .iconst 1, 1, 20, .int 1, 0, 0, 0),
  (20, .iload_n 2, 1, 21, .null, 0, 0, 0),
  (21, .ishl, 1, 22, .null, 0, 0, 0),
  (22, .ior, 1, 23, .null, 0, 0, 0),
  (23, .istore_n 1, 1, 24, .null, 0, 0, 0),
  (24, .iinc 2 1, 3, 27, .int 1, 0, 0, 0),
  (27, .goto (-23), 3, 4, .null, 0, 0, 0),
  (30, .iload_n 1, 1, 31, .null, 0, 0, 0),
  (31, .ireturn, 1, 32, .null, 0, 0, 0)]
set_option maxRecDepth 100000 in
theorem ek_R_darkHangers : e_R_darkHangers.all (eok 2 c_R_darkHangers) = true := by decide +kernel
def F_R_darkHangers_24 (k4 : Nat → Int32 → Int32 → A_W → Option (Int32 × A_W)) (t : Nat) (x1 : Int32) (x2 : Int32) (w : A_W) : Option (Int32 × A_W) :=
  k4 t x1 (x2 + 1) w
def F_R_darkHangers_4 : Nat → Nat → Int32 → Int32 → A_W → Option (Int32 × A_W)
  | 0, _, _, _, _ => none
  | n + 1, t, x1, x2, w =>
    if 16 ≤ x2 then
      some (x1, w)
    else
      (ob w t 2).bind fun o3 =>
      (F_R_lightAt t x2 w).bind fun p2 =>
      if p2.1 = 0 then
        F_R_darkHangers_24 (F_R_darkHangers_4 n) t (x1 ||| (1 <<< (x2 &&& 31))) x2 p2.2
      else
        F_R_darkHangers_24 (F_R_darkHangers_4 n) t x1 x2 p2.2
def F_R_darkHangers_0 (t : Nat) (w : A_W) : Option (Int32 × A_W) :=
  F_R_darkHangers_4 FU t 0 0 w
set_option maxHeartbeats 4000000 in
set_option maxRecDepth 100000 in
theorem s_R_darkHangers_24 {G : Gx} {X : Cx} {res : Int32 × A_W} (K : Ok G X 2 c_R_darkHangers 3 (some .int) rm_R_darkHangers) (hQ : QQ G X (some (.int res.1)) res.2 0 0) {k4 : Nat → Int32 → Int32 → A_W → Option (Int32 × A_W)} (hk4 : ∀ (t : Nat) (x1 : Int32) (x2 : Int32) (w : A_W), k4 t x1 x2 w = some res → Sm G X w 0 0 [some (.ref t), some (.int x1), some (.int x2)] [] 4) (t : Nat) (x1 : Int32) (x2 : Int32) (w : A_W) (h : F_R_darkHangers_24 k4 t x1 x2 w = some res) : Sm G X w 0 0 [some (.ref t), some (.int x1), some (.int x2)] [] 24 := by
  unfold F_R_darkHangers_24 at h
  refine Sm_run K ek_R_darkHangers 17 2 rfl ?_
  exact Sm_le (leR_s (leR_s (leR_s leR_nil))) (hk4 _ _ _ _ h)
set_option maxHeartbeats 4000000 in
set_option maxRecDepth 100000 in
theorem s_R_darkHangers_4 {G : Gx} {X : Cx} {res : Int32 × A_W} (K : Ok G X 2 c_R_darkHangers 3 (some .int) rm_R_darkHangers) (hQ : QQ G X (some (.int res.1)) res.2 0 0) : ∀ (n : Nat) (t : Nat) (x1 : Int32) (x2 : Int32) (w : A_W), F_R_darkHangers_4 n t x1 x2 w = some res → Sm G X w 0 0 [some (.ref t), some (.int x1), some (.int x2)] [] 4 := by
  intro n
  induction n with
  | zero => intro t x1 x2 w h; cases h
  | succ n ih =>
    intro t x1 x2 w h
    rw [F_R_darkHangers_4] at h
    refine Sm_run K ek_R_darkHangers 4 2 rfl ?_
    refine Sm_ic_ge K (eo ek_R_darkHangers (i := 6) rfl) (fun c1 => ?_) (fun c1 => ?_)
    · rw [if_pos c1] at h
      refine Sm_run K ek_R_darkHangers 19 1 rfl ?_
      obtain rfl := Option.some.inj h
      exact Sm_reti K hQ (eok_i (eo ek_R_darkHangers (i := 20) rfl) rfl)
    · rw [if_neg c1] at h
      refine Sm_run K ek_R_darkHangers 7 2 rfl ?_
      obtain ⟨o3, e_o3, h⟩ := Option.bind_eq_some_iff.mp h
      obtain ⟨p2, e_p2, h⟩ := Option.bind_eq_some_iff.mp h
      refine Sm_callV K (eok_i (eo ek_R_darkHangers (i := 9) rfl) rfl) cy_R_lightAt im_R_lightAt se_R_lightAt (lgm 308 (by decide +kernel) rfl) ⟨Nat.le_of_ble_eq_true rfl, Nat.le_of_ble_eq_true rfl⟩ (as := [.int x2]) (b := t) (st := []) (ob_e e_o3) (by decide) rfl rfl rfl rfl (Nat.le_of_ble_eq_true rfl) ⟨Nat.le_of_ble_eq_true rfl, Nat.le_of_ble_eq_true rfl⟩ (cn_R_lightAt e_p2) ?_
      refine Sm_eq (st1 := .int p2.1 :: []) (nc1 := 0) (ns1 := 0) rfl rfl rfl ?_
      refine Sm_if_ne K (eo ek_R_darkHangers (i := 10) rfl) (fun c4 => ?_) (fun c4 => ?_)
      · rw [if_neg c4] at h
        exact Sm_le (leR_s (leR_s (leR_s leR_nil))) (s_R_darkHangers_24 K hQ ih _ _ _ _ h)
      · rw [if_pos c4] at h
        refine Sm_run K ek_R_darkHangers 11 6 rfl ?_
        exact Sm_le (leR_s (leR_s (leR_s leR_nil))) (s_R_darkHangers_24 K hQ ih _ _ _ _ h)
set_option maxHeartbeats 4000000 in
set_option maxRecDepth 100000 in
theorem s_R_darkHangers_0 {G : Gx} {X : Cx} {res : Int32 × A_W} (K : Ok G X 2 c_R_darkHangers 3 (some .int) rm_R_darkHangers) (hQ : QQ G X (some (.int res.1)) res.2 0 0) (t : Nat) (w : A_W) (h : F_R_darkHangers_0 t w = some res) : Sm G X w 0 0 [some (.ref t), none, none] [] 0 := by
  unfold F_R_darkHangers_0 at h
  refine Sm_run K ek_R_darkHangers 0 4 rfl ?_
  exact Sm_le (leR_s (leR_s (leR_s leR_nil))) (s_R_darkHangers_4 K hQ FU _ _ _ _ h)
def F_R_darkHangers (t : Nat) (w : A_W) : Option (Int32 × A_W) := F_R_darkHangers_0 t w
theorem cn_R_darkHangers {G : Gx} {t : Nat} {w : A_W} {res : Int32 × A_W} (h : F_R_darkHangers t w = some res) : Cn G y_R_darkHangers c_R_darkHangers 3 (some .int) rm_R_darkHangers [.ref t] w (some (.int res.1)) res.2 :=
  Cn_of (own := 2) cy_R_darkHangers rfl rfl (Nat.le_of_ble_eq_true rfl) rfl (fun X K _ hQ => Sm_le (leR_s (leR_n (leR_n leR_nil))) (s_R_darkHangers_0 K hQ _ _ h))
/-! EveningCloak$Room.lightestHanger()I -/
abbrev c_R_lightestHanger : ByteArray := prog_3_method_26_code
def y_R_lightestHanger : MethodName := ⟨"EveningCloak$Room", "lightestHanger", "()I"⟩
def rm_R_lightestHanger : Room := { frames := 3, cells := 0, slots := 0, locals := 68 }
theorem cy_R_lightestHanger : Cy y_R_lightestHanger c_R_lightestHanger 5 (some .int) 0 := ⟨lgm 403 (by decide +kernel) rfl, lgm 69 (by decide +kernel) rfl, by decide +kernel, by decide +kernel⟩
theorem im_R_lightestHanger : Cond.instanceMethod y_R_lightestHanger ∈ lg := lgm 401 (by decide +kernel) rfl
theorem se_R_lightestHanger : Cond.selects y_R_lightestHanger.cls y_R_lightestHanger y_R_lightestHanger ∈ lg := lgm 402 (by decide +kernel) rfl
def e_R_lightestHanger : List Ent := [
  (0, .iconst 0, 1, 1, .int 0, 0, 0, 0),
  (1, .istore_n 1, 1, 2, .null, 0, 0, 0),
  (2, .aload_n 0, 1, 3, .null, 0, 0, 0),
  (3, .iconst 0, 1, 4, .int 0, 0, 0, 0),
  (4, .invokevirtual 103, 3, 7, .null, 0, 0, 0),
  (7, .istore_n 2, 1, 8, .null, 0, 0, 0),
  (8, .iconst 1, 1, 9, .int 1, 0, 0, 0),
  (9, .istore_n 3, 1, 10, .null, 0, 0, 0),
  (10, .iload_n 3, 1, 11, .null, 0, 0, 0),
  (11, .bipush 16, 2, 13, .int 16, 0, 0, 0),
  (13, .if_icmp .ge 27, 3, 40, .null, 0, 0, 0),
  (16, .aload_n 0, 1, 17, .null, 0, 0, 0),
  (17, .iload_n 3, 1, 18, .null, 0, 0, 0),
  (18, .invokevirtual 103, 3, 21, .null, 0, 0, 0),
  (21, .istore 4, 2, 23, .null, 0, 0, 0),
  (23, .iload 4, 2, 25, .null, 0, 0, 0),
  (25, .iload_n 2, 1, 26, .null, 0, 0, 0),
  (26, .if_icmp .le 8, 3, 34, .null, 0, 0, 0),
  (29, .iload 4, 2, 31, .null, 0, 0, 0),
  (31, .istore_n 2, 1, 32, .null, 0, 0, 0),
  (32, .iload_n 3, 1, 33, .null, 0, 0, 0),
  (33, .istore_n 1, 1, 34, .null, 0, 0, 0),
  (34, .iinc 3 1, 3, 37, .int 1, 0, 0, 0),
  (37, .goto (-27), 3, 10, .null, 0, 0, 0),
  (40, .iload_n 1, 1, 41, .null, 0, 0, 0),
  (41, .ireturn, 1, 42, .null, 0, 0, 0)]
set_option maxRecDepth 100000 in
theorem ek_R_lightestHanger : e_R_lightestHanger.all (eok 2 c_R_lightestHanger) = true := by decide +kernel
def F_R_lightestHanger_34 (k10 : Nat → Int32 → Int32 → Int32 → A_W → Option (Int32 × A_W)) (t : Nat) (x1 : Int32) (x2 : Int32) (x3 : Int32) (w : A_W) : Option (Int32 × A_W) :=
  k10 t x1 x2 (x3 + 1) w
def F_R_lightestHanger_10 : Nat → Nat → Int32 → Int32 → Int32 → A_W → Option (Int32 × A_W)
  | 0, _, _, _, _, _ => none
  | n + 1, t, x1, x2, x3, w =>
    if 16 ≤ x3 then
      some (x1, w)
    else
      (ob w t 2).bind fun o3 =>
      (F_R_lightAt t x3 w).bind fun p2 =>
      if p2.1 ≤ x2 then
        F_R_lightestHanger_34 (F_R_lightestHanger_10 n) t x1 x2 x3 p2.2
      else
        F_R_lightestHanger_34 (F_R_lightestHanger_10 n) t x3 p2.1 x3 p2.2
def F_R_lightestHanger_0 (t : Nat) (w : A_W) : Option (Int32 × A_W) :=
  (ob w t 2).bind fun o2 =>
  (F_R_lightAt t 0 w).bind fun p1 =>
  F_R_lightestHanger_10 FU t 0 p1.1 1 p1.2
set_option maxHeartbeats 4000000 in
set_option maxRecDepth 100000 in
theorem s_R_lightestHanger_34 {G : Gx} {X : Cx} {res : Int32 × A_W} (K : Ok G X 2 c_R_lightestHanger 5 (some .int) rm_R_lightestHanger) (hQ : QQ G X (some (.int res.1)) res.2 0 0) {k10 : Nat → Int32 → Int32 → Int32 → A_W → Option (Int32 × A_W)} (hk10 : ∀ (t : Nat) (x1 : Int32) (x2 : Int32) (x3 : Int32) (w : A_W), k10 t x1 x2 x3 w = some res → Sm G X w 0 0 [some (.ref t), some (.int x1), some (.int x2), some (.int x3), none] [] 10) (t : Nat) (x1 : Int32) (x2 : Int32) (x3 : Int32) (w : A_W) (h : F_R_lightestHanger_34 k10 t x1 x2 x3 w = some res) : Sm G X w 0 0 [some (.ref t), some (.int x1), some (.int x2), some (.int x3), none] [] 34 := by
  unfold F_R_lightestHanger_34 at h
  refine Sm_run K ek_R_lightestHanger 22 2 rfl ?_
  exact Sm_le (leR_s (leR_s (leR_s (leR_s (leR_n leR_nil))))) (hk10 _ _ _ _ _ h)
set_option maxHeartbeats 4000000 in
set_option maxRecDepth 100000 in
theorem s_R_lightestHanger_10 {G : Gx} {X : Cx} {res : Int32 × A_W} (K : Ok G X 2 c_R_lightestHanger 5 (some .int) rm_R_lightestHanger) (hQ : QQ G X (some (.int res.1)) res.2 0 0) : ∀ (n : Nat) (t : Nat) (x1 : Int32) (x2 : Int32) (x3 : Int32) (w : A_W), F_R_lightestHanger_10 n t x1 x2 x3 w = some res → Sm G X w 0 0 [some (.ref t), some (.int x1), some (.int x2), some (.int x3), none] [] 10 := by
  intro n
  induction n with
  | zero => intro t x1 x2 x3 w h; cases h
  | succ n ih =>
    intro t x1 x2 x3 w h
    rw [F_R_lightestHanger_10] at h
    refine Sm_run K ek_R_lightestHanger 8 2 rfl ?_
    refine Sm_ic_ge K (eo ek_R_lightestHanger (i := 10) rfl) (fun c1 => ?_) (fun c1 => ?_)
    · rw [if_pos c1] at h
      refine Sm_run K ek_R_lightestHanger 24 1 rfl ?_
      obtain rfl := Option.some.inj h
      exact Sm_reti K hQ (eok_i (eo ek_R_lightestHanger (i := 25) rfl) rfl)
    · rw [if_neg c1] at h
      refine Sm_run K ek_R_lightestHanger 11 2 rfl ?_
      obtain ⟨o3, e_o3, h⟩ := Option.bind_eq_some_iff.mp h
      obtain ⟨p2, e_p2, h⟩ := Option.bind_eq_some_iff.mp h
      refine Sm_callV K (eok_i (eo ek_R_lightestHanger (i := 13) rfl) rfl) cy_R_lightAt im_R_lightAt se_R_lightAt (lgm 308 (by decide +kernel) rfl) ⟨Nat.le_of_ble_eq_true rfl, Nat.le_of_ble_eq_true rfl⟩ (as := [.int x3]) (b := t) (st := []) (ob_e e_o3) (by decide) rfl rfl rfl rfl (Nat.le_of_ble_eq_true rfl) ⟨Nat.le_of_ble_eq_true rfl, Nat.le_of_ble_eq_true rfl⟩ (cn_R_lightAt e_p2) ?_
      refine Sm_eq (st1 := .int p2.1 :: []) (nc1 := 0) (ns1 := 0) rfl rfl rfl ?_
      refine Sm_run K ek_R_lightestHanger 14 3 rfl ?_
      refine Sm_ic_le K (eo ek_R_lightestHanger (i := 17) rfl) (fun c4 => ?_) (fun c4 => ?_)
      · rw [if_pos c4] at h
        exact Sm_le (leR_s (leR_s (leR_s (leR_s (leR_n leR_nil))))) (s_R_lightestHanger_34 K hQ ih _ _ _ _ _ h)
      · rw [if_neg c4] at h
        refine Sm_run K ek_R_lightestHanger 18 4 rfl ?_
        exact Sm_le (leR_s (leR_s (leR_s (leR_s (leR_n leR_nil))))) (s_R_lightestHanger_34 K hQ ih _ _ _ _ _ h)
set_option maxHeartbeats 4000000 in
set_option maxRecDepth 100000 in
theorem s_R_lightestHanger_0 {G : Gx} {X : Cx} {res : Int32 × A_W} (K : Ok G X 2 c_R_lightestHanger 5 (some .int) rm_R_lightestHanger) (hQ : QQ G X (some (.int res.1)) res.2 0 0) (t : Nat) (w : A_W) (h : F_R_lightestHanger_0 t w = some res) : Sm G X w 0 0 [some (.ref t), none, none, none, none] [] 0 := by
  unfold F_R_lightestHanger_0 at h
  refine Sm_run K ek_R_lightestHanger 0 4 rfl ?_
  obtain ⟨o2, e_o2, h⟩ := Option.bind_eq_some_iff.mp h
  obtain ⟨p1, e_p1, h⟩ := Option.bind_eq_some_iff.mp h
  refine Sm_callV K (eok_i (eo ek_R_lightestHanger (i := 4) rfl) rfl) cy_R_lightAt im_R_lightAt se_R_lightAt (lgm 308 (by decide +kernel) rfl) ⟨Nat.le_of_ble_eq_true rfl, Nat.le_of_ble_eq_true rfl⟩ (as := [.int 0]) (b := t) (st := []) (ob_e e_o2) (by decide) rfl rfl rfl rfl (Nat.le_of_ble_eq_true rfl) ⟨Nat.le_of_ble_eq_true rfl, Nat.le_of_ble_eq_true rfl⟩ (cn_R_lightAt e_p1) ?_
  refine Sm_eq (st1 := .int p1.1 :: []) (nc1 := 0) (ns1 := 0) rfl rfl rfl ?_
  refine Sm_run K ek_R_lightestHanger 5 3 rfl ?_
  exact Sm_le (leR_s (leR_s (leR_s (leR_s (leR_n leR_nil))))) (s_R_lightestHanger_10 K hQ FU _ _ _ _ _ h)
def F_R_lightestHanger (t : Nat) (w : A_W) : Option (Int32 × A_W) := F_R_lightestHanger_0 t w
theorem cn_R_lightestHanger {G : Gx} {t : Nat} {w : A_W} {res : Int32 × A_W} (h : F_R_lightestHanger t w = some res) : Cn G y_R_lightestHanger c_R_lightestHanger 5 (some .int) rm_R_lightestHanger [.ref t] w (some (.int res.1)) res.2 :=
  Cn_of (own := 2) cy_R_lightestHanger rfl rfl (Nat.le_of_ble_eq_true rfl) rfl (fun X K _ hQ => Sm_le (leR_s (leR_n (leR_n (leR_n (leR_n leR_nil))))) (s_R_lightestHanger_0 K hQ _ _ h))
/-! EveningCloak$Room.dreamTogether()I -/
abbrev c_R_dreamTogether : ByteArray := prog_3_method_22_code
def y_R_dreamTogether : MethodName := ⟨"EveningCloak$Room", "dreamTogether", "()I"⟩
def rm_R_dreamTogether : Room := { frames := 0, cells := 0, slots := 0, locals := 0 }
theorem cy_R_dreamTogether : Cy y_R_dreamTogether c_R_dreamTogether 3 (some .int) 0 := ⟨lgm 408 (by decide +kernel) rfl, lgm 69 (by decide +kernel) rfl, by decide +kernel, by decide +kernel⟩
theorem im_R_dreamTogether : Cond.instanceMethod y_R_dreamTogether ∈ lg := lgm 406 (by decide +kernel) rfl
theorem se_R_dreamTogether : Cond.selects y_R_dreamTogether.cls y_R_dreamTogether y_R_dreamTogether ∈ lg := lgm 407 (by decide +kernel) rfl
def e_R_dreamTogether : List Ent := [
  (0, .iconst 0, 1, 1, .int 0, 0, 0, 0),
  (1, .istore_n 1, 1, 2, .null, 0, 0, 0),
  (2, .iconst 0, 1, 3, .int 0, 0, 0, 0),
  (3, .istore_n 2, 1, 4, .null, 0, 0, 0),
  (4, .iload_n 2, 1, 5, .null, 0, 0, 0),
  (5, .aload_n 0, 1, 6, .null, 0, 0, 0),
  (6, .getfield 64, 3, 9, .null, 2, 4, 107),
  (9, .if_icmp .ge 18, 3, 27, .null, 0, 0, 0),
  (12, .iload_n 1, 1, 13, .null, 0, 0, 0),
  (13, .aload_n 0, 1, 14, .null, 0, 0, 0),
  (14, .getfield 37, 3, 17, .null, 2, 12, 128),
  (17, .iload_n 2, 1, 18, .null, 0, 0, 0),
  (18, .iaload, 1, 19, .null, 0, 0, 0),
  (19, .iadd, 1, 20, .null, 0, 0, 0),
  (20, .istore_n 1, 1, 21, .null, 0, 0, 0),
  (21, .iinc 2 1, 3, 24, .int 1, 0, 0, 0),
  (24, .goto (-20), 3, 4, .null, 0, 0, 0),
  (27, .iload_n 1, 1, 28, .null, 0, 0, 0),
  (28, .ireturn, 1, 29, .null, 0, 0, 0)]
set_option maxRecDepth 100000 in
theorem ek_R_dreamTogether : e_R_dreamTogether.all (eok 2 c_R_dreamTogether) = true := by decide +kernel
def F_R_dreamTogether_4 : Nat → Nat → Int32 → Int32 → A_W → Option (Int32 × A_W)
  | 0, _, _, _, _ => none
  | n + 1, t, x1, x2, w =>
    (gi w t 2 4).bind fun v1 =>
    if v1 ≤ x2 then
      some (x1, w)
    else
      (gr w t 2 12).bind fun a3 =>
      (rd w a3 x2).bind fun v4 =>
      F_R_dreamTogether_4 n t (x1 + v4) (x2 + 1) w
def F_R_dreamTogether_0 (t : Nat) (w : A_W) : Option (Int32 × A_W) :=
  F_R_dreamTogether_4 FU t 0 0 w
set_option maxHeartbeats 4000000 in
set_option maxRecDepth 100000 in
theorem s_R_dreamTogether_4 {G : Gx} {X : Cx} {res : Int32 × A_W} (K : Ok G X 2 c_R_dreamTogether 3 (some .int) rm_R_dreamTogether) (hQ : QQ G X (some (.int res.1)) res.2 0 0) : ∀ (n : Nat) (t : Nat) (x1 : Int32) (x2 : Int32) (w : A_W), F_R_dreamTogether_4 n t x1 x2 w = some res → Sm G X w 0 0 [some (.ref t), some (.int x1), some (.int x2)] [] 4 := by
  intro n
  induction n with
  | zero => intro t x1 x2 w h; cases h
  | succ n ih =>
    intro t x1 x2 w h
    rw [F_R_dreamTogether_4] at h
    refine Sm_run K ek_R_dreamTogether 4 2 rfl ?_
    obtain ⟨v1, e_v1, h⟩ := Option.bind_eq_some_iff.mp h
    refine Sm_gi K (eo ek_R_dreamTogether (i := 6) rfl) e_v1 ?_
    refine Sm_ic_ge K (eo ek_R_dreamTogether (i := 7) rfl) (fun c2 => ?_) (fun c2 => ?_)
    · rw [if_pos c2] at h
      refine Sm_run K ek_R_dreamTogether 17 1 rfl ?_
      obtain rfl := Option.some.inj h
      exact Sm_reti K hQ (eok_i (eo ek_R_dreamTogether (i := 18) rfl) rfl)
    · rw [if_neg c2] at h
      refine Sm_run K ek_R_dreamTogether 8 2 rfl ?_
      obtain ⟨a3, e_a3, h⟩ := Option.bind_eq_some_iff.mp h
      refine Sm_gr K (eo ek_R_dreamTogether (i := 10) rfl) e_a3 ?_
      refine Sm_run K ek_R_dreamTogether 11 1 rfl ?_
      obtain ⟨v4, e_v4, h⟩ := Option.bind_eq_some_iff.mp h
      refine Sm_rd K (eok_i (eo ek_R_dreamTogether (i := 12) rfl) rfl) e_v4 ?_
      refine Sm_run K ek_R_dreamTogether 13 4 rfl ?_
      exact Sm_le (leR_s (leR_s (leR_s leR_nil))) (ih _ _ _ _ h)
set_option maxHeartbeats 4000000 in
set_option maxRecDepth 100000 in
theorem s_R_dreamTogether_0 {G : Gx} {X : Cx} {res : Int32 × A_W} (K : Ok G X 2 c_R_dreamTogether 3 (some .int) rm_R_dreamTogether) (hQ : QQ G X (some (.int res.1)) res.2 0 0) (t : Nat) (w : A_W) (h : F_R_dreamTogether_0 t w = some res) : Sm G X w 0 0 [some (.ref t), none, none] [] 0 := by
  unfold F_R_dreamTogether_0 at h
  refine Sm_run K ek_R_dreamTogether 0 4 rfl ?_
  exact Sm_le (leR_s (leR_s (leR_s leR_nil))) (s_R_dreamTogether_4 K hQ FU _ _ _ _ h)
def F_R_dreamTogether (t : Nat) (w : A_W) : Option (Int32 × A_W) := F_R_dreamTogether_0 t w
theorem cn_R_dreamTogether {G : Gx} {t : Nat} {w : A_W} {res : Int32 × A_W} (h : F_R_dreamTogether t w = some res) : Cn G y_R_dreamTogether c_R_dreamTogether 3 (some .int) rm_R_dreamTogether [.ref t] w (some (.int res.1)) res.2 :=
  Cn_of (own := 2) cy_R_dreamTogether rfl rfl (Nat.le_of_ble_eq_true rfl) rfl (fun X K _ hQ => Sm_le (leR_s (leR_n (leR_n leR_nil))) (s_R_dreamTogether_0 K hQ _ _ h))
/-! EveningCloak.now(I)I -/
abbrev c_K_now : ByteArray := prog_1_method_13_code
def y_K_now : MethodName := ⟨"EveningCloak", "now", "(I)I"⟩
def rm_K_now : Room := { frames := 4, cells := 0, slots := 0, locals := 92 }
theorem cy_K_now : Cy y_K_now c_K_now 2 (some .int) 1 := ⟨lgm 387 (by decide +kernel) rfl, lgm 68 (by decide +kernel) rfl, by decide +kernel, by decide +kernel⟩
theorem im_K_now : Cond.instanceMethod y_K_now ∈ lg := lgm 385 (by decide +kernel) rfl
theorem se_K_now : Cond.selects y_K_now.cls y_K_now y_K_now ∈ lg := lgm 386 (by decide +kernel) rfl
def e_K_now : List Ent := [
  (0, .iload_n 1, 1, 1, .null, 0, 0, 0),
  (1, .tableswitch 111 0 7 #[47, 55, 63, 71, 79, 87, 95, 103], 47, 48, .null, 0, 0, 0),
  (48, .aload_n 0, 1, 49, .null, 0, 0, 0),
  (49, .getfield 12, 3, 52, .null, 0, 0, 217),
  (52, .getfield 109, 3, 55, .null, 2, 0, 99),
  (55, .ireturn, 1, 56, .null, 0, 0, 0),
  (56, .aload_n 0, 1, 57, .null, 0, 0, 0),
  (57, .getfield 12, 3, 60, .null, 0, 0, 217),
  (60, .getfield 117, 3, 63, .null, 2, 1, 101),
  (63, .ireturn, 1, 64, .null, 0, 0, 0),
  (64, .aload_n 0, 1, 65, .null, 0, 0, 0),
  (65, .getfield 12, 3, 68, .null, 0, 0, 217),
  (68, .invokevirtual 120, 3, 71, .null, 0, 0, 0),
  (71, .ireturn, 1, 72, .null, 0, 0, 0),
  (72, .aload_n 0, 1, 73, .null, 0, 0, 0),
  (73, .getfield 12, 3, 76, .null, 0, 0, 217),
  (76, .invokevirtual 124, 3, 79, .null, 0, 0, 0),
  (79, .ireturn, 1, 80, .null, 0, 0, 0),
  (80, .aload_n 0, 1, 81, .null, 0, 0, 0),
  (81, .getfield 12, 3, 84, .null, 0, 0, 217),
  (84, .invokevirtual 127, 3, 87, .null, 0, 0, 0),
  (87, .ireturn, 1, 88, .null, 0, 0, 0),
  (88, .aload_n 0, 1, 89, .null, 0, 0, 0),
  (89, .getfield 12, 3, 92, .null, 0, 0, 217),
  (92, .invokevirtual 130, 3, 95, .null, 0, 0, 0),
  (95, .ireturn, 1, 96, .null, 0, 0, 0),
  (96, .aload_n 0, 1, 97, .null, 0, 0, 0),
  (97, .getfield 12, 3, 100, .null, 0, 0, 217),
  (100, .invokevirtual 133, 3, 103, .null, 0, 0, 0),
  (103, .ireturn, 1, 104, .null, 0, 0, 0),
  (104, .aload_n 0, 1, 105, .null, 0, 0, 0),
  (105, .getfield 12, 3, 108, .null, 0, 0, 217),
  (108, .invokevirtual 136, 3, 111, .null, 0, 0, 0),
  (111, .ireturn, 1, 112, .null, 0, 0, 0),
  (112, .aload_n 0, 1, 113, .null, 0, 0, 0),
  (113, .iconst 0, 1, 114, .int 0, 0, 0, 0),
  (114, .invokevirtual 48, 3, 117, .null, 0, 0, 0),
  (117, .ireturn, 1, 118, .null, 0, 0, 0)]
set_option maxRecDepth 100000 in
theorem ek_K_now : e_K_now.all (eok 0 c_K_now) = true := by decide +kernel
def F_K_now_0 (t : Nat) (x1 : Int32) (w : A_W) : Option (Int32 × A_W) :=
  if x1 = 0 then
    (gr w t 0 0).bind fun a1 =>
    (gi w a1 2 0).bind fun v2 =>
    some (v2, w)
  else if x1 = 1 then
    (gr w t 0 0).bind fun a3 =>
    (gi w a3 2 1).bind fun v4 =>
    some (v4, w)
  else if x1 = 2 then
    (gr w t 0 0).bind fun a5 =>
    (ob w a5 2).bind fun o7 =>
    (F_R_metTogether a5 w).bind fun p6 =>
    some (p6.1, p6.2)
  else if x1 = 3 then
    (gr w t 0 0).bind fun a8 =>
    (ob w a8 2).bind fun o10 =>
    (F_R_outSet a8 w).bind fun p9 =>
    some (p9.1, p9.2)
  else if x1 = 4 then
    (gr w t 0 0).bind fun a11 =>
    (ob w a11 2).bind fun o13 =>
    (F_R_darkHangers a11 w).bind fun p12 =>
    some (p12.1, p12.2)
  else if x1 = 5 then
    (gr w t 0 0).bind fun a14 =>
    (ob w a14 2).bind fun o16 =>
    (F_R_lightestHanger a14 w).bind fun p15 =>
    some (p15.1, p15.2)
  else if x1 = 6 then
    (gr w t 0 0).bind fun a17 =>
    (ob w a17 2).bind fun o19 =>
    (F_R_costTogether a17 w).bind fun p18 =>
    some (p18.1, p18.2)
  else if x1 = 7 then
    (gr w t 0 0).bind fun a20 =>
    (ob w a20 2).bind fun o22 =>
    (F_R_dreamTogether a20 w).bind fun p21 =>
    some (p21.1, p21.2)
  else
    (ob w t 0).bind fun o24 =>
    (F_K_finding t 0 w).bind fun p23 =>
    some (p23.1, p23.2)
set_option maxHeartbeats 4000000 in
set_option maxRecDepth 100000 in
theorem s_K_now_0 {G : Gx} {X : Cx} {res : Int32 × A_W} (K : Ok G X 0 c_K_now 2 (some .int) rm_K_now) (hQ : QQ G X (some (.int res.1)) res.2 0 0) (t : Nat) (x1 : Int32) (w : A_W) (h : F_K_now_0 t x1 w = some res) : Sm G X w 0 0 [some (.ref t), some (.int x1)] [] 0 := by
  unfold F_K_now_0 at h
  refine Sm_run K ek_K_now 0 1 rfl ?_
  refine Sm_tsw K (eok_d (eo ek_K_now (i := 1) rfl)) [48, 56, 64, 72, 80, 88, 96, 104] 112 (by decide) (by decide) (by decide) (fun j hj hx => ?_) (fun hx => ?_)
  · have hj : j < 8 := hj
    rcases (show j = 0 ∨ j = 1 ∨ j = 2 ∨ j = 3 ∨ j = 4 ∨ j = 5 ∨ j = 6 ∨ j = 7 by omega) with rfl | rfl | rfl | rfl | rfl | rfl | rfl | rfl
    · have hc : x1 = 0 := Int32.toInt_inj.mp (hx.trans (by decide))
      rw [if_pos hc] at h
      refine Sm_pc (pc1 := 48) rfl ?_
      refine Sm_run K ek_K_now 2 1 rfl ?_
      obtain ⟨a1, e_a1, h⟩ := Option.bind_eq_some_iff.mp h
      refine Sm_gr K (eo ek_K_now (i := 3) rfl) e_a1 ?_
      obtain ⟨v2, e_v2, h⟩ := Option.bind_eq_some_iff.mp h
      refine Sm_gi K (eo ek_K_now (i := 4) rfl) e_v2 ?_
      obtain rfl := Option.some.inj h
      exact Sm_reti K hQ (eok_i (eo ek_K_now (i := 5) rfl) rfl)
    · have hc : x1 = 1 := Int32.toInt_inj.mp (hx.trans (by decide))
      rw [if_neg (by rw [hc]; decide), if_pos hc] at h
      refine Sm_pc (pc1 := 56) rfl ?_
      refine Sm_run K ek_K_now 6 1 rfl ?_
      obtain ⟨a3, e_a3, h⟩ := Option.bind_eq_some_iff.mp h
      refine Sm_gr K (eo ek_K_now (i := 7) rfl) e_a3 ?_
      obtain ⟨v4, e_v4, h⟩ := Option.bind_eq_some_iff.mp h
      refine Sm_gi K (eo ek_K_now (i := 8) rfl) e_v4 ?_
      obtain rfl := Option.some.inj h
      exact Sm_reti K hQ (eok_i (eo ek_K_now (i := 9) rfl) rfl)
    · have hc : x1 = 2 := Int32.toInt_inj.mp (hx.trans (by decide))
      rw [if_neg (by rw [hc]; decide), if_neg (by rw [hc]; decide), if_pos hc] at h
      refine Sm_pc (pc1 := 64) rfl ?_
      refine Sm_run K ek_K_now 10 1 rfl ?_
      obtain ⟨a5, e_a5, h⟩ := Option.bind_eq_some_iff.mp h
      refine Sm_gr K (eo ek_K_now (i := 11) rfl) e_a5 ?_
      obtain ⟨o7, e_o7, h⟩ := Option.bind_eq_some_iff.mp h
      obtain ⟨p6, e_p6, h⟩ := Option.bind_eq_some_iff.mp h
      refine Sm_callV K (eok_i (eo ek_K_now (i := 12) rfl) rfl) cy_R_metTogether im_R_metTogether se_R_metTogether (lgm 388 (by decide +kernel) rfl) ⟨Nat.le_of_ble_eq_true rfl, Nat.le_of_ble_eq_true rfl⟩ (as := []) (b := a5) (st := []) (ob_e e_o7) (by decide) rfl rfl rfl rfl (Nat.le_of_ble_eq_true rfl) ⟨Nat.le_of_ble_eq_true rfl, Nat.le_of_ble_eq_true rfl⟩ (cn_R_metTogether e_p6) ?_
      refine Sm_eq (st1 := .int p6.1 :: []) (nc1 := 0) (ns1 := 0) rfl rfl rfl ?_
      obtain rfl := Option.some.inj h
      exact Sm_reti K hQ (eok_i (eo ek_K_now (i := 13) rfl) rfl)
    · have hc : x1 = 3 := Int32.toInt_inj.mp (hx.trans (by decide))
      rw [if_neg (by rw [hc]; decide), if_neg (by rw [hc]; decide), if_neg (by rw [hc]; decide), if_pos hc] at h
      refine Sm_pc (pc1 := 72) rfl ?_
      refine Sm_run K ek_K_now 14 1 rfl ?_
      obtain ⟨a8, e_a8, h⟩ := Option.bind_eq_some_iff.mp h
      refine Sm_gr K (eo ek_K_now (i := 15) rfl) e_a8 ?_
      obtain ⟨o10, e_o10, h⟩ := Option.bind_eq_some_iff.mp h
      obtain ⟨p9, e_p9, h⟩ := Option.bind_eq_some_iff.mp h
      refine Sm_callV K (eok_i (eo ek_K_now (i := 16) rfl) rfl) cy_R_outSet im_R_outSet se_R_outSet (lgm 392 (by decide +kernel) rfl) ⟨Nat.le_of_ble_eq_true rfl, Nat.le_of_ble_eq_true rfl⟩ (as := []) (b := a8) (st := []) (ob_e e_o10) (by decide) rfl rfl rfl rfl (Nat.le_of_ble_eq_true rfl) ⟨Nat.le_of_ble_eq_true rfl, Nat.le_of_ble_eq_true rfl⟩ (cn_R_outSet e_p9) ?_
      refine Sm_eq (st1 := .int p9.1 :: []) (nc1 := 0) (ns1 := 0) rfl rfl rfl ?_
      obtain rfl := Option.some.inj h
      exact Sm_reti K hQ (eok_i (eo ek_K_now (i := 17) rfl) rfl)
    · have hc : x1 = 4 := Int32.toInt_inj.mp (hx.trans (by decide))
      rw [if_neg (by rw [hc]; decide), if_neg (by rw [hc]; decide), if_neg (by rw [hc]; decide), if_neg (by rw [hc]; decide), if_pos hc] at h
      refine Sm_pc (pc1 := 80) rfl ?_
      refine Sm_run K ek_K_now 18 1 rfl ?_
      obtain ⟨a11, e_a11, h⟩ := Option.bind_eq_some_iff.mp h
      refine Sm_gr K (eo ek_K_now (i := 19) rfl) e_a11 ?_
      obtain ⟨o13, e_o13, h⟩ := Option.bind_eq_some_iff.mp h
      obtain ⟨p12, e_p12, h⟩ := Option.bind_eq_some_iff.mp h
      refine Sm_callV K (eok_i (eo ek_K_now (i := 20) rfl) rfl) cy_R_darkHangers im_R_darkHangers se_R_darkHangers (lgm 396 (by decide +kernel) rfl) ⟨Nat.le_of_ble_eq_true rfl, Nat.le_of_ble_eq_true rfl⟩ (as := []) (b := a11) (st := []) (ob_e e_o13) (by decide) rfl rfl rfl rfl (Nat.le_of_ble_eq_true rfl) ⟨Nat.le_of_ble_eq_true rfl, Nat.le_of_ble_eq_true rfl⟩ (cn_R_darkHangers e_p12) ?_
      refine Sm_eq (st1 := .int p12.1 :: []) (nc1 := 0) (ns1 := 0) rfl rfl rfl ?_
      obtain rfl := Option.some.inj h
      exact Sm_reti K hQ (eok_i (eo ek_K_now (i := 21) rfl) rfl)
    · have hc : x1 = 5 := Int32.toInt_inj.mp (hx.trans (by decide))
      rw [if_neg (by rw [hc]; decide), if_neg (by rw [hc]; decide), if_neg (by rw [hc]; decide), if_neg (by rw [hc]; decide), if_neg (by rw [hc]; decide), if_pos hc] at h
      refine Sm_pc (pc1 := 88) rfl ?_
      refine Sm_run K ek_K_now 22 1 rfl ?_
      obtain ⟨a14, e_a14, h⟩ := Option.bind_eq_some_iff.mp h
      refine Sm_gr K (eo ek_K_now (i := 23) rfl) e_a14 ?_
      obtain ⟨o16, e_o16, h⟩ := Option.bind_eq_some_iff.mp h
      obtain ⟨p15, e_p15, h⟩ := Option.bind_eq_some_iff.mp h
      refine Sm_callV K (eok_i (eo ek_K_now (i := 24) rfl) rfl) cy_R_lightestHanger im_R_lightestHanger se_R_lightestHanger (lgm 400 (by decide +kernel) rfl) ⟨Nat.le_of_ble_eq_true rfl, Nat.le_of_ble_eq_true rfl⟩ (as := []) (b := a14) (st := []) (ob_e e_o16) (by decide) rfl rfl rfl rfl (Nat.le_of_ble_eq_true rfl) ⟨Nat.le_of_ble_eq_true rfl, Nat.le_of_ble_eq_true rfl⟩ (cn_R_lightestHanger e_p15) ?_
      refine Sm_eq (st1 := .int p15.1 :: []) (nc1 := 0) (ns1 := 0) rfl rfl rfl ?_
      obtain rfl := Option.some.inj h
      exact Sm_reti K hQ (eok_i (eo ek_K_now (i := 25) rfl) rfl)
    · have hc : x1 = 6 := Int32.toInt_inj.mp (hx.trans (by decide))
      rw [if_neg (by rw [hc]; decide), if_neg (by rw [hc]; decide), if_neg (by rw [hc]; decide), if_neg (by rw [hc]; decide), if_neg (by rw [hc]; decide), if_neg (by rw [hc]; decide), if_pos hc] at h
      refine Sm_pc (pc1 := 96) rfl ?_
      refine Sm_run K ek_K_now 26 1 rfl ?_
      obtain ⟨a17, e_a17, h⟩ := Option.bind_eq_some_iff.mp h
      refine Sm_gr K (eo ek_K_now (i := 27) rfl) e_a17 ?_
      obtain ⟨o19, e_o19, h⟩ := Option.bind_eq_some_iff.mp h
      obtain ⟨p18, e_p18, h⟩ := Option.bind_eq_some_iff.mp h
      refine Sm_callV K (eok_i (eo ek_K_now (i := 28) rfl) rfl) cy_R_costTogether im_R_costTogether se_R_costTogether (lgm 404 (by decide +kernel) rfl) ⟨Nat.le_of_ble_eq_true rfl, Nat.le_of_ble_eq_true rfl⟩ (as := []) (b := a17) (st := []) (ob_e e_o19) (by decide) rfl rfl rfl rfl (Nat.le_of_ble_eq_true rfl) ⟨Nat.le_of_ble_eq_true rfl, Nat.le_of_ble_eq_true rfl⟩ (cn_R_costTogether e_p18) ?_
      refine Sm_eq (st1 := .int p18.1 :: []) (nc1 := 0) (ns1 := 0) rfl rfl rfl ?_
      obtain rfl := Option.some.inj h
      exact Sm_reti K hQ (eok_i (eo ek_K_now (i := 29) rfl) rfl)
    · have hc : x1 = 7 := Int32.toInt_inj.mp (hx.trans (by decide))
      rw [if_neg (by rw [hc]; decide), if_neg (by rw [hc]; decide), if_neg (by rw [hc]; decide), if_neg (by rw [hc]; decide), if_neg (by rw [hc]; decide), if_neg (by rw [hc]; decide), if_neg (by rw [hc]; decide), if_pos hc] at h
      refine Sm_pc (pc1 := 104) rfl ?_
      refine Sm_run K ek_K_now 30 1 rfl ?_
      obtain ⟨a20, e_a20, h⟩ := Option.bind_eq_some_iff.mp h
      refine Sm_gr K (eo ek_K_now (i := 31) rfl) e_a20 ?_
      obtain ⟨o22, e_o22, h⟩ := Option.bind_eq_some_iff.mp h
      obtain ⟨p21, e_p21, h⟩ := Option.bind_eq_some_iff.mp h
      refine Sm_callV K (eok_i (eo ek_K_now (i := 32) rfl) rfl) cy_R_dreamTogether im_R_dreamTogether se_R_dreamTogether (lgm 405 (by decide +kernel) rfl) ⟨Nat.le_of_ble_eq_true rfl, Nat.le_of_ble_eq_true rfl⟩ (as := []) (b := a20) (st := []) (ob_e e_o22) (by decide) rfl rfl rfl rfl (Nat.le_of_ble_eq_true rfl) ⟨Nat.le_of_ble_eq_true rfl, Nat.le_of_ble_eq_true rfl⟩ (cn_R_dreamTogether e_p21) ?_
      refine Sm_eq (st1 := .int p21.1 :: []) (nc1 := 0) (ns1 := 0) rfl rfl rfl ?_
      obtain rfl := Option.some.inj h
      exact Sm_reti K hQ (eok_i (eo ek_K_now (i := 33) rfl) rfl)
  · rw [if_neg (fun hc => hx 0 (by decide) (by rw [hc]; decide)), if_neg (fun hc => hx 1 (by decide) (by rw [hc]; decide)), if_neg (fun hc => hx 2 (by decide) (by rw [hc]; decide)), if_neg (fun hc => hx 3 (by decide) (by rw [hc]; decide)), if_neg (fun hc => hx 4 (by decide) (by rw [hc]; decide)), if_neg (fun hc => hx 5 (by decide) (by rw [hc]; decide)), if_neg (fun hc => hx 6 (by decide) (by rw [hc]; decide)), if_neg (fun hc => hx 7 (by decide) (by rw [hc]; decide))] at h
    refine Sm_run K ek_K_now 34 2 rfl ?_
    obtain ⟨o24, e_o24, h⟩ := Option.bind_eq_some_iff.mp h
    obtain ⟨p23, e_p23, h⟩ := Option.bind_eq_some_iff.mp h
    refine Sm_callV K (eok_i (eo ek_K_now (i := 36) rfl) rfl) cy_K_finding im_K_finding se_K_finding (lgm 249 (by decide +kernel) rfl) ⟨Nat.le_of_ble_eq_true rfl, Nat.le_of_ble_eq_true rfl⟩ (as := [.int 0]) (b := t) (st := []) (ob_e e_o24) (by decide) rfl rfl rfl rfl (Nat.le_of_ble_eq_true rfl) ⟨Nat.le_of_ble_eq_true rfl, Nat.le_of_ble_eq_true rfl⟩ (cn_K_finding e_p23) ?_
    refine Sm_eq (st1 := .int p23.1 :: []) (nc1 := 0) (ns1 := 0) rfl rfl rfl ?_
    obtain rfl := Option.some.inj h
    exact Sm_reti K hQ (eok_i (eo ek_K_now (i := 37) rfl) rfl)
def F_K_now (t : Nat) (x1 : Int32) (w : A_W) : Option (Int32 × A_W) := F_K_now_0 t x1 w
theorem cn_K_now {G : Gx} {t : Nat} {x1 : Int32} {w : A_W} {res : Int32 × A_W} (h : F_K_now t x1 w = some res) : Cn G y_K_now c_K_now 2 (some .int) rm_K_now [.ref t, .int x1] w (some (.int res.1)) res.2 :=
  Cn_of (own := 0) cy_K_now rfl rfl (Nat.le_of_ble_eq_true rfl) rfl (fun X K _ hQ => Sm_le (leR_s (leR_s leR_nil)) (s_K_now_0 K hQ _ _ _ h))
/-! EveningCloak$Room.become(LEveningCloak$Room;)V -/
abbrev c_R_become : ByteArray := prog_3_method_2_code
def y_R_become : MethodName := ⟨"EveningCloak$Room", "become", "(LEveningCloak$Room;)V"⟩
def rm_R_become : Room := { frames := 1, cells := 0, slots := 0, locals := 54 }
theorem cy_R_become : Cy y_R_become c_R_become 2 (none) 1 := ⟨lgm 420 (by decide +kernel) rfl, lgm 69 (by decide +kernel) rfl, by decide +kernel, by decide +kernel⟩
theorem im_R_become : Cond.instanceMethod y_R_become ∈ lg := lgm 418 (by decide +kernel) rfl
theorem se_R_become : Cond.selects y_R_become.cls y_R_become y_R_become ∈ lg := lgm 419 (by decide +kernel) rfl
def e_R_become : List Ent := [
  (0, .aload_n 0, 1, 1, .null, 0, 0, 0),
  (1, .aload_n 1, 1, 2, .null, 0, 0, 0),
  (2, .getfield 55, 3, 5, .null, 2, 0, 98),
  (5, .putfield 55, 3, 8, .null, 2, 0, 98),
  (8, .aload_n 0, 1, 9, .null, 0, 0, 0),
  (9, .aload_n 1, 1, 10, .null, 0, 0, 0),
  (10, .getfield 58, 3, 13, .null, 2, 1, 100),
  (13, .putfield 58, 3, 16, .null, 2, 1, 100),
  (16, .aload_n 0, 1, 17, .null, 0, 0, 0),
  (17, .aload_n 1, 1, 18, .null, 0, 0, 0),
  (18, .getfield 9, 3, 21, .null, 2, 2, 102),
  (21, .putfield 9, 3, 24, .null, 2, 2, 102),
  (24, .aload_n 0, 1, 25, .null, 0, 0, 0),
  (25, .aload_n 1, 1, 26, .null, 0, 0, 0),
  (26, .getfield 61, 3, 29, .null, 2, 3, 104),
  (29, .putfield 61, 3, 32, .null, 2, 3, 104),
  (32, .aload_n 0, 1, 33, .null, 0, 0, 0),
  (33, .aload_n 1, 1, 34, .null, 0, 0, 0),
  (34, .getfield 64, 3, 37, .null, 2, 4, 107),
  (37, .putfield 64, 3, 40, .null, 2, 4, 107),
  (40, .aload_n 1, 1, 41, .null, 0, 0, 0),
  (41, .getfield 15, 3, 44, .null, 2, 5, 110),
  (44, .iconst 0, 1, 45, .int 0, 0, 0, 0),
  (45, .aload_n 0, 1, 46, .null, 0, 0, 0),
  (46, .getfield 15, 3, 49, .null, 2, 5, 110),
  (49, .iconst 0, 1, 50, .int 0, 0, 0, 0),
  (50, .bipush 6, 2, 52, .int 6, 0, 0, 0),
  (52, .invokestatic 67, 3, 55, .null, 0, 0, 0),
  (55, .aload_n 1, 1, 56, .null, 0, 0, 0),
  (56, .getfield 19, 3, 59, .null, 2, 6, 113),
  (59, .iconst 0, 1, 60, .int 0, 0, 0, 0),
  (60, .aload_n 0, 1, 61, .null, 0, 0, 0),
  (61, .getfield 19, 3, 64, .null, 2, 6, 113),
  (64, .iconst 0, 1, 65, .int 0, 0, 0, 0),
  (65, .bipush 8, 2, 67, .int 8, 0, 0, 0),
  (67, .invokestatic 67, 3, 70, .null, 0, 0, 0),
  (70, .aload_n 1, 1, 71, .null, 0, 0, 0),
  (71, .getfield 22, 3, 74, .null, 2, 7, 115),
  (74, .iconst 0, 1, 75, .int 0, 0, 0, 0),
  (75, .aload_n 0, 1, 76, .null, 0, 0, 0),
  (76, .getfield 22, 3, 79, .null, 2, 7, 115),
  (79, .iconst 0, 1, 80, .int 0, 0, 0, 0),
  (80, .bipush 8, 2, 82, .int 8, 0, 0, 0),
  (82, .invokestatic 67, 3, 85, .null, 0, 0, 0),
  (85, .aload_n 1, 1, 86, .null, 0, 0, 0),
  (86, .getfield 25, 3, 89, .null, 2, 8, 117),
  (89, .iconst 0, 1, 90, .int 0, 0, 0, 0),
  (90, .aload_n 0, 1, 91, .null, 0, 0, 0),
  (91, .getfield 25, 3, 94, .null, 2, 8, 117),
  (94, .iconst 0, 1, 95, .int 0, 0, 0, 0),
  (95, .bipush 8, 2, 97, .int 8, 0, 0, 0),
  (97, .invokestatic 67, 3, 100, .null, 0, 0, 0),
  (100, .aload_n 1, 1, 101, .null, 0, 0, 0),
  (101, .getfield 28, 3, 104, .null, 2, 9, 120),
  (104, .iconst 0, 1, 105, .int 0, 0, 0, 0),
  (105, .aload_n 0, 1, 106, .null, 0, 0, 0),
  (106, .getfield 28, 3, 109, .null, 2, 9, 120),
  (109, .iconst 0, 1, 110, .int 0, 0, 0, 0),
  (110, .bipush 8, 2, 112, .int 8, 0, 0, 0),
  (112, .invokestatic 67, 3, 115, .null, 0, 0, 0),
  (115, .aload_n 1, 1, 116, .null, 0, 0, 0),
  (116, .getfield 31, 3, 119, .null, 2, 10, 122),
  (119, .iconst 0, 1, 120, .int 0, 0, 0, 0),
  (120, .aload_n 0, 1, 121, .null, 0, 0, 0),
  (121, .getfield 31, 3, 124, .null, 2, 10, 122),
  (124, .iconst 0, 1, 125, .int 0, 0, 0, 0),
  (125, .bipush 8, 2, 127, .int 8, 0, 0, 0),
  (127, .invokestatic 67, 3, 130, .null, 0, 0, 0),
  (130, .aload_n 1, 1, 131, .null, 0, 0, 0),
  (131, .getfield 34, 3, 134, .null, 2, 11, 125),
  (134, .iconst 0, 1, 135, .int 0, 0, 0, 0),
  (135, .aload_n 0, 1, 136, .null, 0, 0, 0),
  (136, .getfield 34, 3, 139, .null, 2, 11, 125),
  (139, .iconst 0, 1, 140, .int 0, 0, 0, 0),
  (140, .bipush 8, 2, 142, .int 8, 0, 0, 0),
  (142, .invokestatic 67, 3, 145, .null, 0, 0, 0),
  (145, .aload_n 1, 1, 146, .null, 0, 0, 0),
  (146, .getfield 37, 3, 149, .null, 2, 12, 128),
  (149, .iconst 0, 1, 150, .int 0, 0, 0, 0),
  (150, .aload_n 0, 1, 151, .null, 0, 0, 0),
  (151, .getfield 37, 3, 154, .null, 2, 12, 128),
  (154, .iconst 0, 1, 155, .int 0, 0, 0, 0),
  (155, .bipush 6, 2, 157, .int 6, 0, 0, 0),
  (157, .invokestatic 67, 3, 160, .null, 0, 0, 0),
  (160, .aload_n 1, 1, 161, .null, 0, 0, 0),
  (161, .getfield 40, 3, 164, .null, 2, 13, 130),
  (164, .iconst 0, 1, 165, .int 0, 0, 0, 0),
  (165, .aload_n 0, 1, 166, .null, 0, 0, 0),
  (166, .getfield 40, 3, 169, .null, 2, 13, 130),
  (169, .iconst 0, 1, 170, .int 0, 0, 0, 0),
  (170, .bipush 6, 2, 172, .int 6, 0, 0, 0),
  (172, .invokestatic 67, 3, 175, .null, 0, 0, 0),
  (175, .aload_n 1, 1, 176, .null, 0, 0, 0),
  (176, .getfield 43, 3, 179, .null, 2, 14, 133),
  (179, .iconst 0, 1, 180, .int 0, 0, 0, 0),
  (180, .aload_n 0, 1, 181, .null, 0, 0, 0),
  (181, .getfield 43, 3, 184, .null, 2, 14, 133),
  (184, .iconst 0, 1, 185, .int 0, 0, 0, 0),
  (185, .bipush 6, 2, 187, .int 6, 0, 0, 0),
  (187, .invokestatic 67, 3, 190, .null, 0, 0, 0),
  (190, .aload_n 1, 1, 191, .null, 0, 0, 0),
  (191, .getfield 46, 3, 194, .null, 2, 15, 135),
  (194, .iconst 0, 1, 195, .int 0, 0, 0, 0),
  (195, .aload_n 0, 1, 196, .null, 0, 0, 0),
  (196, .getfield 46, 3, 199, .null, 2, 15, 135),
  (199, .iconst 0, 1, 200, .int 0, 0, 0, 0),
  (200, .bipush 10, 2, 202, .int 10, 0, 0, 0),
  (202, .invokestatic 67, 3, 205, .null, 0, 0, 0),
  (205, .return_, 1, 206, .null, 0, 0, 0)]
set_option maxRecDepth 100000 in
theorem ek_R_become : e_R_become.all (eok 2 c_R_become) = true := by decide +kernel
def F_R_become_0 (t : Nat) (x1 : Nat) (w : A_W) : Option (A_W) :=
  (gi w x1 2 0).bind fun v1 =>
  (pf w t 2 0 (.int v1)).bind fun w2 =>
  (gi w2 x1 2 1).bind fun v3 =>
  (pf w2 t 2 1 (.int v3)).bind fun w4 =>
  (gi w4 x1 2 2).bind fun v5 =>
  (pf w4 t 2 2 (.int v5)).bind fun w6 =>
  (gi w6 x1 2 3).bind fun v7 =>
  (pf w6 t 2 3 (.int v7)).bind fun w8 =>
  (gi w8 x1 2 4).bind fun v9 =>
  (pf w8 t 2 4 (.int v9)).bind fun w10 =>
  (gr w10 x1 2 5).bind fun a11 =>
  (gr w10 t 2 5).bind fun a12 =>
  (cp w10 a11 0 a12 0 6).bind fun w13 =>
  (gr w13 x1 2 6).bind fun a14 =>
  (gr w13 t 2 6).bind fun a15 =>
  (cp w13 a14 0 a15 0 8).bind fun w16 =>
  (gr w16 x1 2 7).bind fun a17 =>
  (gr w16 t 2 7).bind fun a18 =>
  (cp w16 a17 0 a18 0 8).bind fun w19 =>
  (gr w19 x1 2 8).bind fun a20 =>
  (gr w19 t 2 8).bind fun a21 =>
  (cp w19 a20 0 a21 0 8).bind fun w22 =>
  (gr w22 x1 2 9).bind fun a23 =>
  (gr w22 t 2 9).bind fun a24 =>
  (cp w22 a23 0 a24 0 8).bind fun w25 =>
  (gr w25 x1 2 10).bind fun a26 =>
  (gr w25 t 2 10).bind fun a27 =>
  (cp w25 a26 0 a27 0 8).bind fun w28 =>
  (gr w28 x1 2 11).bind fun a29 =>
  (gr w28 t 2 11).bind fun a30 =>
  (cp w28 a29 0 a30 0 8).bind fun w31 =>
  (gr w31 x1 2 12).bind fun a32 =>
  (gr w31 t 2 12).bind fun a33 =>
  (cp w31 a32 0 a33 0 6).bind fun w34 =>
  (gr w34 x1 2 13).bind fun a35 =>
  (gr w34 t 2 13).bind fun a36 =>
  (cp w34 a35 0 a36 0 6).bind fun w37 =>
  (gr w37 x1 2 14).bind fun a38 =>
  (gr w37 t 2 14).bind fun a39 =>
  (cp w37 a38 0 a39 0 6).bind fun w40 =>
  (gr w40 x1 2 15).bind fun a41 =>
  (gr w40 t 2 15).bind fun a42 =>
  (cp w40 a41 0 a42 0 10).bind fun w43 =>
  some w43
set_option maxHeartbeats 4000000 in
set_option maxRecDepth 100000 in
theorem s_R_become_0 {G : Gx} {X : Cx} {res : A_W} (K : Ok G X 2 c_R_become 2 (none) rm_R_become) (hQ : QQ G X none res 0 0) (t : Nat) (x1 : Nat) (w : A_W) (h : F_R_become_0 t x1 w = some res) : Sm G X w 0 0 [some (.ref t), some (.ref x1)] [] 0 := by
  unfold F_R_become_0 at h
  refine Sm_run K ek_R_become 0 2 rfl ?_
  obtain ⟨v1, e_v1, h⟩ := Option.bind_eq_some_iff.mp h
  refine Sm_gi K (eo ek_R_become (i := 2) rfl) e_v1 ?_
  obtain ⟨w2, e_w2, h⟩ := Option.bind_eq_some_iff.mp h
  refine Sm_pi K (eo ek_R_become (i := 3) rfl) rfl rfl e_w2 ?_
  refine Sm_run K ek_R_become 4 2 rfl ?_
  obtain ⟨v3, e_v3, h⟩ := Option.bind_eq_some_iff.mp h
  refine Sm_gi K (eo ek_R_become (i := 6) rfl) e_v3 ?_
  obtain ⟨w4, e_w4, h⟩ := Option.bind_eq_some_iff.mp h
  refine Sm_pi K (eo ek_R_become (i := 7) rfl) rfl rfl e_w4 ?_
  refine Sm_run K ek_R_become 8 2 rfl ?_
  obtain ⟨v5, e_v5, h⟩ := Option.bind_eq_some_iff.mp h
  refine Sm_gi K (eo ek_R_become (i := 10) rfl) e_v5 ?_
  obtain ⟨w6, e_w6, h⟩ := Option.bind_eq_some_iff.mp h
  refine Sm_pi K (eo ek_R_become (i := 11) rfl) rfl rfl e_w6 ?_
  refine Sm_run K ek_R_become 12 2 rfl ?_
  obtain ⟨v7, e_v7, h⟩ := Option.bind_eq_some_iff.mp h
  refine Sm_gi K (eo ek_R_become (i := 14) rfl) e_v7 ?_
  obtain ⟨w8, e_w8, h⟩ := Option.bind_eq_some_iff.mp h
  refine Sm_pi K (eo ek_R_become (i := 15) rfl) rfl rfl e_w8 ?_
  refine Sm_run K ek_R_become 16 2 rfl ?_
  obtain ⟨v9, e_v9, h⟩ := Option.bind_eq_some_iff.mp h
  refine Sm_gi K (eo ek_R_become (i := 18) rfl) e_v9 ?_
  obtain ⟨w10, e_w10, h⟩ := Option.bind_eq_some_iff.mp h
  refine Sm_pi K (eo ek_R_become (i := 19) rfl) rfl rfl e_w10 ?_
  refine Sm_run K ek_R_become 20 1 rfl ?_
  obtain ⟨a11, e_a11, h⟩ := Option.bind_eq_some_iff.mp h
  refine Sm_gr K (eo ek_R_become (i := 21) rfl) e_a11 ?_
  refine Sm_run K ek_R_become 22 2 rfl ?_
  obtain ⟨a12, e_a12, h⟩ := Option.bind_eq_some_iff.mp h
  refine Sm_gr K (eo ek_R_become (i := 24) rfl) e_a12 ?_
  refine Sm_run K ek_R_become 25 2 rfl ?_
  obtain ⟨w13, e_w13, h⟩ := Option.bind_eq_some_iff.mp h
  refine Sm_cp K (eok_i (eo ek_R_become (i := 27) rfl) rfl) (lgm 421 (by decide +kernel) rfl) ac_nat ac_st ac_in rfl e_w13 (Nat.le_of_ble_eq_true rfl) (Nat.le_of_ble_eq_true rfl) ?_
  refine Sm_run K ek_R_become 28 1 rfl ?_
  obtain ⟨a14, e_a14, h⟩ := Option.bind_eq_some_iff.mp h
  refine Sm_gr K (eo ek_R_become (i := 29) rfl) e_a14 ?_
  refine Sm_run K ek_R_become 30 2 rfl ?_
  obtain ⟨a15, e_a15, h⟩ := Option.bind_eq_some_iff.mp h
  refine Sm_gr K (eo ek_R_become (i := 32) rfl) e_a15 ?_
  refine Sm_run K ek_R_become 33 2 rfl ?_
  obtain ⟨w16, e_w16, h⟩ := Option.bind_eq_some_iff.mp h
  refine Sm_cp K (eok_i (eo ek_R_become (i := 35) rfl) rfl) (lgm 421 (by decide +kernel) rfl) ac_nat ac_st ac_in rfl e_w16 (Nat.le_of_ble_eq_true rfl) (Nat.le_of_ble_eq_true rfl) ?_
  refine Sm_run K ek_R_become 36 1 rfl ?_
  obtain ⟨a17, e_a17, h⟩ := Option.bind_eq_some_iff.mp h
  refine Sm_gr K (eo ek_R_become (i := 37) rfl) e_a17 ?_
  refine Sm_run K ek_R_become 38 2 rfl ?_
  obtain ⟨a18, e_a18, h⟩ := Option.bind_eq_some_iff.mp h
  refine Sm_gr K (eo ek_R_become (i := 40) rfl) e_a18 ?_
  refine Sm_run K ek_R_become 41 2 rfl ?_
  obtain ⟨w19, e_w19, h⟩ := Option.bind_eq_some_iff.mp h
  refine Sm_cp K (eok_i (eo ek_R_become (i := 43) rfl) rfl) (lgm 421 (by decide +kernel) rfl) ac_nat ac_st ac_in rfl e_w19 (Nat.le_of_ble_eq_true rfl) (Nat.le_of_ble_eq_true rfl) ?_
  refine Sm_run K ek_R_become 44 1 rfl ?_
  obtain ⟨a20, e_a20, h⟩ := Option.bind_eq_some_iff.mp h
  refine Sm_gr K (eo ek_R_become (i := 45) rfl) e_a20 ?_
  refine Sm_run K ek_R_become 46 2 rfl ?_
  obtain ⟨a21, e_a21, h⟩ := Option.bind_eq_some_iff.mp h
  refine Sm_gr K (eo ek_R_become (i := 48) rfl) e_a21 ?_
  refine Sm_run K ek_R_become 49 2 rfl ?_
  obtain ⟨w22, e_w22, h⟩ := Option.bind_eq_some_iff.mp h
  refine Sm_cp K (eok_i (eo ek_R_become (i := 51) rfl) rfl) (lgm 421 (by decide +kernel) rfl) ac_nat ac_st ac_in rfl e_w22 (Nat.le_of_ble_eq_true rfl) (Nat.le_of_ble_eq_true rfl) ?_
  refine Sm_run K ek_R_become 52 1 rfl ?_
  obtain ⟨a23, e_a23, h⟩ := Option.bind_eq_some_iff.mp h
  refine Sm_gr K (eo ek_R_become (i := 53) rfl) e_a23 ?_
  refine Sm_run K ek_R_become 54 2 rfl ?_
  obtain ⟨a24, e_a24, h⟩ := Option.bind_eq_some_iff.mp h
  refine Sm_gr K (eo ek_R_become (i := 56) rfl) e_a24 ?_
  refine Sm_run K ek_R_become 57 2 rfl ?_
  obtain ⟨w25, e_w25, h⟩ := Option.bind_eq_some_iff.mp h
  refine Sm_cp K (eok_i (eo ek_R_become (i := 59) rfl) rfl) (lgm 421 (by decide +kernel) rfl) ac_nat ac_st ac_in rfl e_w25 (Nat.le_of_ble_eq_true rfl) (Nat.le_of_ble_eq_true rfl) ?_
  refine Sm_run K ek_R_become 60 1 rfl ?_
  obtain ⟨a26, e_a26, h⟩ := Option.bind_eq_some_iff.mp h
  refine Sm_gr K (eo ek_R_become (i := 61) rfl) e_a26 ?_
  refine Sm_run K ek_R_become 62 2 rfl ?_
  obtain ⟨a27, e_a27, h⟩ := Option.bind_eq_some_iff.mp h
  refine Sm_gr K (eo ek_R_become (i := 64) rfl) e_a27 ?_
  refine Sm_run K ek_R_become 65 2 rfl ?_
  obtain ⟨w28, e_w28, h⟩ := Option.bind_eq_some_iff.mp h
  refine Sm_cp K (eok_i (eo ek_R_become (i := 67) rfl) rfl) (lgm 421 (by decide +kernel) rfl) ac_nat ac_st ac_in rfl e_w28 (Nat.le_of_ble_eq_true rfl) (Nat.le_of_ble_eq_true rfl) ?_
  refine Sm_run K ek_R_become 68 1 rfl ?_
  obtain ⟨a29, e_a29, h⟩ := Option.bind_eq_some_iff.mp h
  refine Sm_gr K (eo ek_R_become (i := 69) rfl) e_a29 ?_
  refine Sm_run K ek_R_become 70 2 rfl ?_
  obtain ⟨a30, e_a30, h⟩ := Option.bind_eq_some_iff.mp h
  refine Sm_gr K (eo ek_R_become (i := 72) rfl) e_a30 ?_
  refine Sm_run K ek_R_become 73 2 rfl ?_
  obtain ⟨w31, e_w31, h⟩ := Option.bind_eq_some_iff.mp h
  refine Sm_cp K (eok_i (eo ek_R_become (i := 75) rfl) rfl) (lgm 421 (by decide +kernel) rfl) ac_nat ac_st ac_in rfl e_w31 (Nat.le_of_ble_eq_true rfl) (Nat.le_of_ble_eq_true rfl) ?_
  refine Sm_run K ek_R_become 76 1 rfl ?_
  obtain ⟨a32, e_a32, h⟩ := Option.bind_eq_some_iff.mp h
  refine Sm_gr K (eo ek_R_become (i := 77) rfl) e_a32 ?_
  refine Sm_run K ek_R_become 78 2 rfl ?_
  obtain ⟨a33, e_a33, h⟩ := Option.bind_eq_some_iff.mp h
  refine Sm_gr K (eo ek_R_become (i := 80) rfl) e_a33 ?_
  refine Sm_run K ek_R_become 81 2 rfl ?_
  obtain ⟨w34, e_w34, h⟩ := Option.bind_eq_some_iff.mp h
  refine Sm_cp K (eok_i (eo ek_R_become (i := 83) rfl) rfl) (lgm 421 (by decide +kernel) rfl) ac_nat ac_st ac_in rfl e_w34 (Nat.le_of_ble_eq_true rfl) (Nat.le_of_ble_eq_true rfl) ?_
  refine Sm_run K ek_R_become 84 1 rfl ?_
  obtain ⟨a35, e_a35, h⟩ := Option.bind_eq_some_iff.mp h
  refine Sm_gr K (eo ek_R_become (i := 85) rfl) e_a35 ?_
  refine Sm_run K ek_R_become 86 2 rfl ?_
  obtain ⟨a36, e_a36, h⟩ := Option.bind_eq_some_iff.mp h
  refine Sm_gr K (eo ek_R_become (i := 88) rfl) e_a36 ?_
  refine Sm_run K ek_R_become 89 2 rfl ?_
  obtain ⟨w37, e_w37, h⟩ := Option.bind_eq_some_iff.mp h
  refine Sm_cp K (eok_i (eo ek_R_become (i := 91) rfl) rfl) (lgm 421 (by decide +kernel) rfl) ac_nat ac_st ac_in rfl e_w37 (Nat.le_of_ble_eq_true rfl) (Nat.le_of_ble_eq_true rfl) ?_
  refine Sm_run K ek_R_become 92 1 rfl ?_
  obtain ⟨a38, e_a38, h⟩ := Option.bind_eq_some_iff.mp h
  refine Sm_gr K (eo ek_R_become (i := 93) rfl) e_a38 ?_
  refine Sm_run K ek_R_become 94 2 rfl ?_
  obtain ⟨a39, e_a39, h⟩ := Option.bind_eq_some_iff.mp h
  refine Sm_gr K (eo ek_R_become (i := 96) rfl) e_a39 ?_
  refine Sm_run K ek_R_become 97 2 rfl ?_
  obtain ⟨w40, e_w40, h⟩ := Option.bind_eq_some_iff.mp h
  refine Sm_cp K (eok_i (eo ek_R_become (i := 99) rfl) rfl) (lgm 421 (by decide +kernel) rfl) ac_nat ac_st ac_in rfl e_w40 (Nat.le_of_ble_eq_true rfl) (Nat.le_of_ble_eq_true rfl) ?_
  refine Sm_run K ek_R_become 100 1 rfl ?_
  obtain ⟨a41, e_a41, h⟩ := Option.bind_eq_some_iff.mp h
  refine Sm_gr K (eo ek_R_become (i := 101) rfl) e_a41 ?_
  refine Sm_run K ek_R_become 102 2 rfl ?_
  obtain ⟨a42, e_a42, h⟩ := Option.bind_eq_some_iff.mp h
  refine Sm_gr K (eo ek_R_become (i := 104) rfl) e_a42 ?_
  refine Sm_run K ek_R_become 105 2 rfl ?_
  obtain ⟨w43, e_w43, h⟩ := Option.bind_eq_some_iff.mp h
  refine Sm_cp K (eok_i (eo ek_R_become (i := 107) rfl) rfl) (lgm 421 (by decide +kernel) rfl) ac_nat ac_st ac_in rfl e_w43 (Nat.le_of_ble_eq_true rfl) (Nat.le_of_ble_eq_true rfl) ?_
  obtain rfl := Option.some.inj h
  exact Sm_retv K hQ (eok_i (eo ek_R_become (i := 108) rfl) rfl)
def F_R_become (t : Nat) (x1 : Nat) (w : A_W) : Option (A_W) := F_R_become_0 t x1 w
theorem cn_R_become {G : Gx} {t : Nat} {x1 : Nat} {w : A_W} {res : A_W} (h : F_R_become t x1 w = some res) : Cn G y_R_become c_R_become 2 (none) rm_R_become [.ref t, .ref x1] w none res :=
  Cn_of (own := 2) cy_R_become rfl rfl (Nat.le_of_ble_eq_true rfl) rfl (fun X K _ hQ => Sm_le (leR_s (leR_s leR_nil)) (s_R_become_0 K hQ _ _ _ h))
/-! EveningCloak.tryDays(I)V -/
abbrev c_K_tryDays : ByteArray := prog_1_method_55_code
def y_K_tryDays : MethodName := ⟨"EveningCloak", "tryDays", "(I)V"⟩
def rm_K_tryDays : Room := { frames := 5, cells := 0, slots := 0, locals := 113 }
theorem cy_K_tryDays : Cy y_K_tryDays c_K_tryDays 2 (none) 1 := ⟨lgm 416 (by decide +kernel) rfl, lgm 68 (by decide +kernel) rfl, by decide +kernel, by decide +kernel⟩
theorem im_K_tryDays : Cond.instanceMethod y_K_tryDays ∈ lg := lgm 415 (by decide +kernel) rfl
theorem se_K_tryDays : Cond.selects y_K_tryDays.cls y_K_tryDays y_K_tryDays ∈ lg := lgm 1 (by decide +kernel) rfl
def e_K_tryDays : List Ent := [
  (0, .aload_n 0, 1, 1, .null, 0, 0, 0),
  (1, .getfield 16, 3, 4, .null, 0, 1, 218),
  (4, .aload_n 0, 1, 5, .null, 0, 0, 0),
  (5, .getfield 12, 3, 8, .null, 0, 0, 217),
  (8, .invokevirtual 187, 3, 11, .null, 0, 0, 0),
  (11, .aload_n 0, 1, 12, .null, 0, 0, 0),
  (12, .getfield 16, 3, 15, .null, 0, 1, 218),
  (15, .iload_n 1, 1, 16, .null, 0, 0, 0),
  (16, .invokevirtual 113, 3, 19, .null, 0, 0, 0),
  (19, .return_, 1, 20, .null, 0, 0, 0)]
set_option maxRecDepth 100000 in
theorem ek_K_tryDays : e_K_tryDays.all (eok 0 c_K_tryDays) = true := by decide +kernel
def F_K_tryDays_0 (t : Nat) (x1 : Int32) (w : A_W) : Option (A_W) :=
  (gr w t 0 1).bind fun a1 =>
  (gr w t 0 0).bind fun a2 =>
  (ob w a1 2).bind fun o4 =>
  (F_R_become a1 a2 w).bind fun p3 =>
  (gr p3 t 0 1).bind fun a5 =>
  (ob p3 a5 2).bind fun o7 =>
  (F_R_passDays a5 x1 p3).bind fun p6 =>
  some p6
set_option maxHeartbeats 4000000 in
set_option maxRecDepth 100000 in
theorem s_K_tryDays_0 {G : Gx} {X : Cx} {res : A_W} (K : Ok G X 0 c_K_tryDays 2 (none) rm_K_tryDays) (hQ : QQ G X none res 0 0) (t : Nat) (x1 : Int32) (w : A_W) (h : F_K_tryDays_0 t x1 w = some res) : Sm G X w 0 0 [some (.ref t), some (.int x1)] [] 0 := by
  unfold F_K_tryDays_0 at h
  refine Sm_run K ek_K_tryDays 0 1 rfl ?_
  obtain ⟨a1, e_a1, h⟩ := Option.bind_eq_some_iff.mp h
  refine Sm_gr K (eo ek_K_tryDays (i := 1) rfl) e_a1 ?_
  refine Sm_run K ek_K_tryDays 2 1 rfl ?_
  obtain ⟨a2, e_a2, h⟩ := Option.bind_eq_some_iff.mp h
  refine Sm_gr K (eo ek_K_tryDays (i := 3) rfl) e_a2 ?_
  obtain ⟨o4, e_o4, h⟩ := Option.bind_eq_some_iff.mp h
  obtain ⟨p3, e_p3, h⟩ := Option.bind_eq_some_iff.mp h
  refine Sm_callV K (eok_i (eo ek_K_tryDays (i := 4) rfl) rfl) cy_R_become im_R_become se_R_become (lgm 417 (by decide +kernel) rfl) ⟨Nat.le_of_ble_eq_true rfl, Nat.le_of_ble_eq_true rfl⟩ (as := [.ref a2]) (b := a1) (st := []) (ob_e e_o4) (by decide) rfl rfl rfl rfl (Nat.le_of_ble_eq_true rfl) ⟨Nat.le_of_ble_eq_true rfl, Nat.le_of_ble_eq_true rfl⟩ (cn_R_become e_p3) ?_
  refine Sm_eq (st1 := []) (nc1 := 0) (ns1 := 0) rfl rfl rfl ?_
  refine Sm_run K ek_K_tryDays 5 1 rfl ?_
  obtain ⟨a5, e_a5, h⟩ := Option.bind_eq_some_iff.mp h
  refine Sm_gr K (eo ek_K_tryDays (i := 6) rfl) e_a5 ?_
  refine Sm_run K ek_K_tryDays 7 1 rfl ?_
  obtain ⟨o7, e_o7, h⟩ := Option.bind_eq_some_iff.mp h
  obtain ⟨p6, e_p6, h⟩ := Option.bind_eq_some_iff.mp h
  refine Sm_callV K (eok_i (eo ek_K_tryDays (i := 8) rfl) rfl) cy_R_passDays im_R_passDays se_R_passDays (lgm 367 (by decide +kernel) rfl) ⟨Nat.le_of_ble_eq_true rfl, Nat.le_of_ble_eq_true rfl⟩ (as := [.int x1]) (b := a5) (st := []) (ob_e e_o7) (by decide) rfl rfl rfl rfl (Nat.le_of_ble_eq_true rfl) ⟨Nat.le_of_ble_eq_true rfl, Nat.le_of_ble_eq_true rfl⟩ (cn_R_passDays e_p6) ?_
  refine Sm_eq (st1 := []) (nc1 := 0) (ns1 := 0) rfl rfl rfl ?_
  obtain rfl := Option.some.inj h
  exact Sm_retv K hQ (eok_i (eo ek_K_tryDays (i := 9) rfl) rfl)
def F_K_tryDays (t : Nat) (x1 : Int32) (w : A_W) : Option (A_W) := F_K_tryDays_0 t x1 w
theorem cn_K_tryDays {G : Gx} {t : Nat} {x1 : Int32} {w : A_W} {res : A_W} (h : F_K_tryDays t x1 w = some res) : Cn G y_K_tryDays c_K_tryDays 2 (none) rm_K_tryDays [.ref t, .int x1] w none res :=
  Cn_of (own := 0) cy_K_tryDays rfl rfl (Nat.le_of_ble_eq_true rfl) rfl (fun X K _ hQ => Sm_le (leR_s (leR_s leR_nil)) (s_K_tryDays_0 K hQ _ _ _ h))
/-! EveningCloak.ahead(III)I -/
abbrev c_K_ahead : ByteArray := prog_1_method_14_code
def y_K_ahead : MethodName := ⟨"EveningCloak", "ahead", "(III)I"⟩
def rm_K_ahead : Room := { frames := 6, cells := 0, slots := 0, locals := 134 }
theorem cy_K_ahead : Cy y_K_ahead c_K_ahead 5 (some .int) 3 := ⟨lgm 412 (by decide +kernel) rfl, lgm 68 (by decide +kernel) rfl, by decide +kernel, by decide +kernel⟩
theorem im_K_ahead : Cond.instanceMethod y_K_ahead ∈ lg := lgm 410 (by decide +kernel) rfl
theorem se_K_ahead : Cond.selects y_K_ahead.cls y_K_ahead y_K_ahead ∈ lg := lgm 411 (by decide +kernel) rfl
def e_K_ahead : List Ent := [
  (0, .iload_n 2, 1, 1, .null, 0, 0, 0),
  (1, .iconst 3, 1, 2, .int 3, 0, 0, 0),
  (2, .if_icmp .eq 20, 3, 22, .null, 0, 0, 0),
  (5, .iload_n 2, 1, 6, .null, 0, 0, 0),
  (6, .iconst 4, 1, 7, .int 4, 0, 0, 0),
  (7, .if_icmp .eq 15, 3, 22, .null, 0, 0, 0),
  (10, .iload_n 2, 1, 11, .null, 0, 0, 0),
  (11, .bipush 6, 2, 13, .int 6, 0, 0, 0),
  (13, .if_icmp .eq 9, 3, 22, .null, 0, 0, 0),
  (16, .iload_n 2, 1, 17, .null, 0, 0, 0),
  (17, .bipush 7, 2, 19, .int 7, 0, 0, 0),
  (19, .if_icmp .ne 7, 3, 26, .null, 0, 0, 0),
  (22, .iconst 1, 1, 23, .int 1, 0, 0, 0),
  (23, .goto 4, 3, 27, .null, 0, 0, 0),
  (26, .iconst 0, 1, 27, .int 0, 0, 0, 0),
  (27, .istore 4, 2, 29, .null, 0, 0, 0),
  (29, .aload_n 0, 1, 30, .null, 0, 0, 0),
  (30, .getfield 12, 3, 33, .null, 0, 0, 217),
  (33, .iload_n 1, 1, 34, .null, 0, 0, 0),
  (34, .invokevirtual 75, 3, 37, .null, 0, 0, 0),
  (37, .ifCond .eq 18, 3, 55, .null, 0, 0, 0),
  (40, .iload 4, 2, 42, .null, 0, 0, 0),
  (42, .ifCond .eq 13, 3, 55, .null, 0, 0, 0),
  (45, .iload_n 3, 1, 46, .null, 0, 0, 0),
  (46, .iconst 0, 1, 47, .int 0, 0, 0, 0),
  (47, .bipush 100, 2, 49, .int 100, 0, 0, 0),
  (49, .invokestatic 40, 3, 52, .null, 0, 0, 0),
  (52, .ifCond .ne 9, 3, 61, .null, 0, 0, 0),
  (55, .aload_n 0, 1, 56, .null, 0, 0, 0),
  (56, .iconst 0, 1, 57, .int 0, 0, 0, 0),
  (57, .invokevirtual 48, 3, 60, .null, 0, 0, 0),
  (60, .ireturn, 1, 61, .null, 0, 0, 0),
  (61, .aload_n 0, 1, 62, .null, 0, 0, 0),
  (62, .iload_n 3, 1, 63, .null, 0, 0, 0),
  (63, .invokevirtual 139, 3, 66, .null, 0, 0, 0),
  (66, .aload_n 0, 1, 67, .null, 0, 0, 0),
  (67, .getfield 16, 3, 70, .null, 0, 1, 218),
  (70, .iload_n 1, 1, 71, .null, 0, 0, 0),
  (71, .iload_n 2, 1, 72, .null, 0, 0, 0),
  (72, .invokevirtual 78, 3, 75, .null, 0, 0, 0),
  (75, .ireturn, 1, 76, .null, 0, 0, 0)]
set_option maxRecDepth 100000 in
theorem ek_K_ahead : e_K_ahead.all (eok 0 c_K_ahead) = true := by decide +kernel
def F_K_ahead_55 (t : Nat) (w : A_W) : Option (Int32 × A_W) :=
  (ob w t 0).bind fun o2 =>
  (F_K_finding t 0 w).bind fun p1 =>
  some (p1.1, p1.2)
def F_K_ahead_27 (t : Nat) (x1 : Int32) (x2 : Int32) (x3 : Int32) (y0 : Int32) (w : A_W) : Option (Int32 × A_W) :=
  (gr w t 0 0).bind fun a1 =>
  (ob w a1 2).bind fun o3 =>
  (F_R_hasDeposit a1 x1 w).bind fun p2 =>
  if p2.1 = 0 then
    F_K_ahead_55 t p2.2
  else
    if y0 = 0 then
      F_K_ahead_55 t p2.2
    else
      (F_K_within x3 0 100 p2.2).bind fun p6 =>
      if p6.1 = 0 then
        F_K_ahead_55 t p6.2
      else
        (ob p6.2 t 0).bind fun o9 =>
        (F_K_tryDays t x3 p6.2).bind fun p8 =>
        (gr p8 t 0 1).bind fun a10 =>
        (ob p8 a10 2).bind fun o12 =>
        (F_R_tellOf a10 x1 x2 p8).bind fun p11 =>
        some (p11.1, p11.2)
def F_K_ahead_22 (t : Nat) (x1 : Int32) (x2 : Int32) (x3 : Int32) (w : A_W) : Option (Int32 × A_W) :=
  F_K_ahead_27 t x1 x2 x3 1 w
def F_K_ahead_0 (t : Nat) (x1 : Int32) (x2 : Int32) (x3 : Int32) (w : A_W) : Option (Int32 × A_W) :=
  if x2 = 3 then
    F_K_ahead_22 t x1 x2 x3 w
  else
    if x2 = 4 then
      F_K_ahead_22 t x1 x2 x3 w
    else
      if x2 = 6 then
        F_K_ahead_22 t x1 x2 x3 w
      else
        if x2 = 7 then
          F_K_ahead_22 t x1 x2 x3 w
        else
          F_K_ahead_27 t x1 x2 x3 0 w
set_option maxHeartbeats 4000000 in
set_option maxRecDepth 100000 in
theorem s_K_ahead_55 {G : Gx} {X : Cx} {res : Int32 × A_W} (K : Ok G X 0 c_K_ahead 5 (some .int) rm_K_ahead) (hQ : QQ G X (some (.int res.1)) res.2 0 0) (t : Nat) (w : A_W) (h : F_K_ahead_55 t w = some res) : Sm G X w 0 0 [some (.ref t), none, none, none, none] [] 55 := by
  unfold F_K_ahead_55 at h
  refine Sm_run K ek_K_ahead 28 2 rfl ?_
  obtain ⟨o2, e_o2, h⟩ := Option.bind_eq_some_iff.mp h
  obtain ⟨p1, e_p1, h⟩ := Option.bind_eq_some_iff.mp h
  refine Sm_callV K (eok_i (eo ek_K_ahead (i := 30) rfl) rfl) cy_K_finding im_K_finding se_K_finding (lgm 249 (by decide +kernel) rfl) ⟨Nat.le_of_ble_eq_true rfl, Nat.le_of_ble_eq_true rfl⟩ (as := [.int 0]) (b := t) (st := []) (ob_e e_o2) (by decide) rfl rfl rfl rfl (Nat.le_of_ble_eq_true rfl) ⟨Nat.le_of_ble_eq_true rfl, Nat.le_of_ble_eq_true rfl⟩ (cn_K_finding e_p1) ?_
  refine Sm_eq (st1 := .int p1.1 :: []) (nc1 := 0) (ns1 := 0) rfl rfl rfl ?_
  obtain rfl := Option.some.inj h
  exact Sm_reti K hQ (eok_i (eo ek_K_ahead (i := 31) rfl) rfl)
set_option maxHeartbeats 4000000 in
set_option maxRecDepth 100000 in
theorem s_K_ahead_27 {G : Gx} {X : Cx} {res : Int32 × A_W} (K : Ok G X 0 c_K_ahead 5 (some .int) rm_K_ahead) (hQ : QQ G X (some (.int res.1)) res.2 0 0) (t : Nat) (x1 : Int32) (x2 : Int32) (x3 : Int32) (y0 : Int32) (w : A_W) (h : F_K_ahead_27 t x1 x2 x3 y0 w = some res) : Sm G X w 0 0 [some (.ref t), some (.int x1), some (.int x2), some (.int x3), none] [.int y0] 27 := by
  unfold F_K_ahead_27 at h
  refine Sm_run K ek_K_ahead 15 2 rfl ?_
  obtain ⟨a1, e_a1, h⟩ := Option.bind_eq_some_iff.mp h
  refine Sm_gr K (eo ek_K_ahead (i := 17) rfl) e_a1 ?_
  refine Sm_run K ek_K_ahead 18 1 rfl ?_
  obtain ⟨o3, e_o3, h⟩ := Option.bind_eq_some_iff.mp h
  obtain ⟨p2, e_p2, h⟩ := Option.bind_eq_some_iff.mp h
  refine Sm_callV K (eok_i (eo ek_K_ahead (i := 19) rfl) rfl) cy_R_hasDeposit im_R_hasDeposit se_R_hasDeposit (lgm 284 (by decide +kernel) rfl) ⟨Nat.le_of_ble_eq_true rfl, Nat.le_of_ble_eq_true rfl⟩ (as := [.int x1]) (b := a1) (st := []) (ob_e e_o3) (by decide) rfl rfl rfl rfl (Nat.le_of_ble_eq_true rfl) ⟨Nat.le_of_ble_eq_true rfl, Nat.le_of_ble_eq_true rfl⟩ (cn_R_hasDeposit e_p2) ?_
  refine Sm_eq (st1 := .int p2.1 :: []) (nc1 := 0) (ns1 := 0) rfl rfl rfl ?_
  refine Sm_if_eq K (eo ek_K_ahead (i := 20) rfl) (fun c4 => ?_) (fun c4 => ?_)
  · rw [if_pos c4] at h
    exact Sm_le (leR_s (leR_n (leR_n (leR_n (leR_n leR_nil))))) (s_K_ahead_55 K hQ _ _ h)
  · rw [if_neg c4] at h
    refine Sm_run K ek_K_ahead 21 1 rfl ?_
    refine Sm_if_eq K (eo ek_K_ahead (i := 22) rfl) (fun c5 => ?_) (fun c5 => ?_)
    · rw [if_pos c5] at h
      exact Sm_le (leR_s (leR_n (leR_n (leR_n (leR_n leR_nil))))) (s_K_ahead_55 K hQ _ _ h)
    · rw [if_neg c5] at h
      refine Sm_run K ek_K_ahead 23 3 rfl ?_
      obtain ⟨p6, e_p6, h⟩ := Option.bind_eq_some_iff.mp h
      refine Sm_callS K (eok_i (eo ek_K_ahead (i := 26) rfl) rfl) cy_K_within st_K_within (lgm 243 (by decide +kernel) rfl) ⟨Nat.le_of_ble_eq_true rfl, Nat.le_of_ble_eq_true rfl⟩ (as := [.int x3, .int 0, .int 100]) (st := []) rfl rfl rfl (Nat.le_of_ble_eq_true rfl) ⟨Nat.le_of_ble_eq_true rfl, Nat.le_of_ble_eq_true rfl⟩ (cn_K_within e_p6) ?_
      refine Sm_eq (st1 := .int p6.1 :: []) (nc1 := 0) (ns1 := 0) rfl rfl rfl ?_
      refine Sm_if_ne K (eo ek_K_ahead (i := 27) rfl) (fun c7 => ?_) (fun c7 => ?_)
      · rw [if_neg c7] at h
        refine Sm_run K ek_K_ahead 32 2 rfl ?_
        obtain ⟨o9, e_o9, h⟩ := Option.bind_eq_some_iff.mp h
        obtain ⟨p8, e_p8, h⟩ := Option.bind_eq_some_iff.mp h
        refine Sm_callV K (eok_i (eo ek_K_ahead (i := 34) rfl) rfl) cy_K_tryDays im_K_tryDays se_K_tryDays (lgm 413 (by decide +kernel) rfl) ⟨Nat.le_of_ble_eq_true rfl, Nat.le_of_ble_eq_true rfl⟩ (as := [.int x3]) (b := t) (st := []) (ob_e e_o9) (by decide) rfl rfl rfl rfl (Nat.le_of_ble_eq_true rfl) ⟨Nat.le_of_ble_eq_true rfl, Nat.le_of_ble_eq_true rfl⟩ (cn_K_tryDays e_p8) ?_
        refine Sm_eq (st1 := []) (nc1 := 0) (ns1 := 0) rfl rfl rfl ?_
        refine Sm_run K ek_K_ahead 35 1 rfl ?_
        obtain ⟨a10, e_a10, h⟩ := Option.bind_eq_some_iff.mp h
        refine Sm_gr K (eo ek_K_ahead (i := 36) rfl) e_a10 ?_
        refine Sm_run K ek_K_ahead 37 2 rfl ?_
        obtain ⟨o12, e_o12, h⟩ := Option.bind_eq_some_iff.mp h
        obtain ⟨p11, e_p11, h⟩ := Option.bind_eq_some_iff.mp h
        refine Sm_callV K (eok_i (eo ek_K_ahead (i := 39) rfl) rfl) cy_R_tellOf im_R_tellOf se_R_tellOf (lgm 289 (by decide +kernel) rfl) ⟨Nat.le_of_ble_eq_true rfl, Nat.le_of_ble_eq_true rfl⟩ (as := [.int x1, .int x2]) (b := a10) (st := []) (ob_e e_o12) (by decide) rfl rfl rfl rfl (Nat.le_of_ble_eq_true rfl) ⟨Nat.le_of_ble_eq_true rfl, Nat.le_of_ble_eq_true rfl⟩ (cn_R_tellOf e_p11) ?_
        refine Sm_eq (st1 := .int p11.1 :: []) (nc1 := 0) (ns1 := 0) rfl rfl rfl ?_
        obtain rfl := Option.some.inj h
        exact Sm_reti K hQ (eok_i (eo ek_K_ahead (i := 40) rfl) rfl)
      · rw [if_pos c7] at h
        exact Sm_le (leR_s (leR_n (leR_n (leR_n (leR_n leR_nil))))) (s_K_ahead_55 K hQ _ _ h)
set_option maxHeartbeats 4000000 in
set_option maxRecDepth 100000 in
theorem s_K_ahead_22 {G : Gx} {X : Cx} {res : Int32 × A_W} (K : Ok G X 0 c_K_ahead 5 (some .int) rm_K_ahead) (hQ : QQ G X (some (.int res.1)) res.2 0 0) (t : Nat) (x1 : Int32) (x2 : Int32) (x3 : Int32) (w : A_W) (h : F_K_ahead_22 t x1 x2 x3 w = some res) : Sm G X w 0 0 [some (.ref t), some (.int x1), some (.int x2), some (.int x3), none] [] 22 := by
  unfold F_K_ahead_22 at h
  refine Sm_run K ek_K_ahead 12 2 rfl ?_
  exact Sm_le (leR_s (leR_s (leR_s (leR_s (leR_n leR_nil))))) (s_K_ahead_27 K hQ _ _ _ _ _ _ h)
set_option maxHeartbeats 4000000 in
set_option maxRecDepth 100000 in
theorem s_K_ahead_0 {G : Gx} {X : Cx} {res : Int32 × A_W} (K : Ok G X 0 c_K_ahead 5 (some .int) rm_K_ahead) (hQ : QQ G X (some (.int res.1)) res.2 0 0) (t : Nat) (x1 : Int32) (x2 : Int32) (x3 : Int32) (w : A_W) (h : F_K_ahead_0 t x1 x2 x3 w = some res) : Sm G X w 0 0 [some (.ref t), some (.int x1), some (.int x2), some (.int x3), none] [] 0 := by
  unfold F_K_ahead_0 at h
  refine Sm_run K ek_K_ahead 0 2 rfl ?_
  refine Sm_ic_eq K (eo ek_K_ahead (i := 2) rfl) (fun c1 => ?_) (fun c1 => ?_)
  · rw [if_pos c1] at h
    exact Sm_le (leR_s (leR_s (leR_s (leR_s (leR_n leR_nil))))) (s_K_ahead_22 K hQ _ _ _ _ _ h)
  · rw [if_neg c1] at h
    refine Sm_run K ek_K_ahead 3 2 rfl ?_
    refine Sm_ic_eq K (eo ek_K_ahead (i := 5) rfl) (fun c2 => ?_) (fun c2 => ?_)
    · rw [if_pos c2] at h
      exact Sm_le (leR_s (leR_s (leR_s (leR_s (leR_n leR_nil))))) (s_K_ahead_22 K hQ _ _ _ _ _ h)
    · rw [if_neg c2] at h
      refine Sm_run K ek_K_ahead 6 2 rfl ?_
      refine Sm_ic_eq K (eo ek_K_ahead (i := 8) rfl) (fun c3 => ?_) (fun c3 => ?_)
      · rw [if_pos c3] at h
        exact Sm_le (leR_s (leR_s (leR_s (leR_s (leR_n leR_nil))))) (s_K_ahead_22 K hQ _ _ _ _ _ h)
      · rw [if_neg c3] at h
        refine Sm_run K ek_K_ahead 9 2 rfl ?_
        refine Sm_ic_ne K (eo ek_K_ahead (i := 11) rfl) (fun c4 => ?_) (fun c4 => ?_)
        · rw [if_neg c4] at h
          refine Sm_run K ek_K_ahead 14 1 rfl ?_
          exact Sm_le (leR_s (leR_s (leR_s (leR_s (leR_n leR_nil))))) (s_K_ahead_27 K hQ _ _ _ _ _ _ h)
        · rw [if_pos c4] at h
          exact Sm_le (leR_s (leR_s (leR_s (leR_s (leR_n leR_nil))))) (s_K_ahead_22 K hQ _ _ _ _ _ h)
def F_K_ahead (t : Nat) (x1 : Int32) (x2 : Int32) (x3 : Int32) (w : A_W) : Option (Int32 × A_W) := F_K_ahead_0 t x1 x2 x3 w
theorem cn_K_ahead {G : Gx} {t : Nat} {x1 : Int32} {x2 : Int32} {x3 : Int32} {w : A_W} {res : Int32 × A_W} (h : F_K_ahead t x1 x2 x3 w = some res) : Cn G y_K_ahead c_K_ahead 5 (some .int) rm_K_ahead [.ref t, .int x1, .int x2, .int x3] w (some (.int res.1)) res.2 :=
  Cn_of (own := 0) cy_K_ahead rfl rfl (Nat.le_of_ble_eq_true rfl) rfl (fun X K _ hQ => Sm_le (leR_s (leR_s (leR_s (leR_s (leR_n leR_nil))))) (s_K_ahead_0 K hQ _ _ _ _ _ h))
/-! EveningCloak.later(III)I -/
abbrev c_K_later : ByteArray := prog_1_method_15_code
def y_K_later : MethodName := ⟨"EveningCloak", "later", "(III)I"⟩
def rm_K_later : Room := { frames := 6, cells := 0, slots := 0, locals := 134 }
theorem cy_K_later : Cy y_K_later c_K_later 5 (some .int) 3 := ⟨lgm 427 (by decide +kernel) rfl, lgm 68 (by decide +kernel) rfl, by decide +kernel, by decide +kernel⟩
theorem im_K_later : Cond.instanceMethod y_K_later ∈ lg := lgm 425 (by decide +kernel) rfl
theorem se_K_later : Cond.selects y_K_later.cls y_K_later y_K_later ∈ lg := lgm 426 (by decide +kernel) rfl
def e_K_later : List Ent := [
  (0, .iload_n 2, 1, 1, .null, 0, 0, 0),
  (1, .ifCond .eq 8, 3, 9, .null, 0, 0, 0),
  (4, .iload_n 2, 1, 5, .null, 0, 0, 0),
  (5, .iconst 2, 1, 6, .int 2, 0, 0, 0),
  (6, .if_icmp .ne 7, 3, 13, .null, 0, 0, 0),
  (9, .iconst 1, 1, 10, .int 1, 0, 0, 0),
  (10, .goto 4, 3, 14, .null, 0, 0, 0),
  (13, .iconst 0, 1, 14, .int 0, 0, 0, 0),
  (14, .istore 4, 2, 16, .null, 0, 0, 0),
  (16, .aload_n 0, 1, 17, .null, 0, 0, 0),
  (17, .getfield 12, 3, 20, .null, 0, 0, 217),
  (20, .iload_n 1, 1, 21, .null, 0, 0, 0),
  (21, .invokevirtual 88, 3, 24, .null, 0, 0, 0),
  (24, .ifCond .eq 18, 3, 42, .null, 0, 0, 0),
  (27, .iload 4, 2, 29, .null, 0, 0, 0),
  (29, .ifCond .eq 13, 3, 42, .null, 0, 0, 0),
  (32, .iload_n 3, 1, 33, .null, 0, 0, 0),
  (33, .iconst 0, 1, 34, .int 0, 0, 0, 0),
  (34, .bipush 100, 2, 36, .int 100, 0, 0, 0),
  (36, .invokestatic 40, 3, 39, .null, 0, 0, 0),
  (39, .ifCond .ne 9, 3, 48, .null, 0, 0, 0),
  (42, .aload_n 0, 1, 43, .null, 0, 0, 0),
  (43, .iconst 0, 1, 44, .int 0, 0, 0, 0),
  (44, .invokevirtual 48, 3, 47, .null, 0, 0, 0),
  (47, .ireturn, 1, 48, .null, 0, 0, 0),
  (48, .aload_n 0, 1, 49, .null, 0, 0, 0),
  (49, .iload_n 3, 1, 50, .null, 0, 0, 0),
  (50, .invokevirtual 139, 3, 53, .null, 0, 0, 0),
  (53, .aload_n 0, 1, 54, .null, 0, 0, 0),
  (54, .getfield 16, 3, 57, .null, 0, 1, 218),
  (57, .iload_n 2, 1, 58, .null, 0, 0, 0),
  (58, .invokevirtual 91, 3, 61, .null, 0, 0, 0),
  (61, .iload_n 1, 1, 62, .null, 0, 0, 0),
  (62, .iaload, 1, 63, .null, 0, 0, 0),
  (63, .ireturn, 1, 64, .null, 0, 0, 0)]
set_option maxRecDepth 100000 in
theorem ek_K_later : e_K_later.all (eok 0 c_K_later) = true := by decide +kernel
def F_K_later_42 (t : Nat) (w : A_W) : Option (Int32 × A_W) :=
  (ob w t 0).bind fun o2 =>
  (F_K_finding t 0 w).bind fun p1 =>
  some (p1.1, p1.2)
def F_K_later_14 (t : Nat) (x1 : Int32) (x2 : Int32) (x3 : Int32) (y0 : Int32) (w : A_W) : Option (Int32 × A_W) :=
  (gr w t 0 0).bind fun a1 =>
  (ob w a1 2).bind fun o3 =>
  (F_R_hasGirl a1 x1 w).bind fun p2 =>
  if p2.1 = 0 then
    F_K_later_42 t p2.2
  else
    if y0 = 0 then
      F_K_later_42 t p2.2
    else
      (F_K_within x3 0 100 p2.2).bind fun p6 =>
      if p6.1 = 0 then
        F_K_later_42 t p6.2
      else
        (ob p6.2 t 0).bind fun o9 =>
        (F_K_tryDays t x3 p6.2).bind fun p8 =>
        (gr p8 t 0 1).bind fun a10 =>
        (ob p8 a10 2).bind fun o12 =>
        (F_R_girlRow a10 x2 p8).bind fun p11 =>
        (rd p11.2 p11.1 x1).bind fun v13 =>
        some (v13, p11.2)
def F_K_later_9 (t : Nat) (x1 : Int32) (x2 : Int32) (x3 : Int32) (w : A_W) : Option (Int32 × A_W) :=
  F_K_later_14 t x1 x2 x3 1 w
def F_K_later_0 (t : Nat) (x1 : Int32) (x2 : Int32) (x3 : Int32) (w : A_W) : Option (Int32 × A_W) :=
  if x2 = 0 then
    F_K_later_9 t x1 x2 x3 w
  else
    if x2 = 2 then
      F_K_later_9 t x1 x2 x3 w
    else
      F_K_later_14 t x1 x2 x3 0 w
set_option maxHeartbeats 4000000 in
set_option maxRecDepth 100000 in
theorem s_K_later_42 {G : Gx} {X : Cx} {res : Int32 × A_W} (K : Ok G X 0 c_K_later 5 (some .int) rm_K_later) (hQ : QQ G X (some (.int res.1)) res.2 0 0) (t : Nat) (w : A_W) (h : F_K_later_42 t w = some res) : Sm G X w 0 0 [some (.ref t), none, none, none, none] [] 42 := by
  unfold F_K_later_42 at h
  refine Sm_run K ek_K_later 21 2 rfl ?_
  obtain ⟨o2, e_o2, h⟩ := Option.bind_eq_some_iff.mp h
  obtain ⟨p1, e_p1, h⟩ := Option.bind_eq_some_iff.mp h
  refine Sm_callV K (eok_i (eo ek_K_later (i := 23) rfl) rfl) cy_K_finding im_K_finding se_K_finding (lgm 249 (by decide +kernel) rfl) ⟨Nat.le_of_ble_eq_true rfl, Nat.le_of_ble_eq_true rfl⟩ (as := [.int 0]) (b := t) (st := []) (ob_e e_o2) (by decide) rfl rfl rfl rfl (Nat.le_of_ble_eq_true rfl) ⟨Nat.le_of_ble_eq_true rfl, Nat.le_of_ble_eq_true rfl⟩ (cn_K_finding e_p1) ?_
  refine Sm_eq (st1 := .int p1.1 :: []) (nc1 := 0) (ns1 := 0) rfl rfl rfl ?_
  obtain rfl := Option.some.inj h
  exact Sm_reti K hQ (eok_i (eo ek_K_later (i := 24) rfl) rfl)
set_option maxHeartbeats 4000000 in
set_option maxRecDepth 100000 in
theorem s_K_later_14 {G : Gx} {X : Cx} {res : Int32 × A_W} (K : Ok G X 0 c_K_later 5 (some .int) rm_K_later) (hQ : QQ G X (some (.int res.1)) res.2 0 0) (t : Nat) (x1 : Int32) (x2 : Int32) (x3 : Int32) (y0 : Int32) (w : A_W) (h : F_K_later_14 t x1 x2 x3 y0 w = some res) : Sm G X w 0 0 [some (.ref t), some (.int x1), some (.int x2), some (.int x3), none] [.int y0] 14 := by
  unfold F_K_later_14 at h
  refine Sm_run K ek_K_later 8 2 rfl ?_
  obtain ⟨a1, e_a1, h⟩ := Option.bind_eq_some_iff.mp h
  refine Sm_gr K (eo ek_K_later (i := 10) rfl) e_a1 ?_
  refine Sm_run K ek_K_later 11 1 rfl ?_
  obtain ⟨o3, e_o3, h⟩ := Option.bind_eq_some_iff.mp h
  obtain ⟨p2, e_p2, h⟩ := Option.bind_eq_some_iff.mp h
  refine Sm_callV K (eok_i (eo ek_K_later (i := 12) rfl) rfl) cy_R_hasGirl im_R_hasGirl se_R_hasGirl (lgm 337 (by decide +kernel) rfl) ⟨Nat.le_of_ble_eq_true rfl, Nat.le_of_ble_eq_true rfl⟩ (as := [.int x1]) (b := a1) (st := []) (ob_e e_o3) (by decide) rfl rfl rfl rfl (Nat.le_of_ble_eq_true rfl) ⟨Nat.le_of_ble_eq_true rfl, Nat.le_of_ble_eq_true rfl⟩ (cn_R_hasGirl e_p2) ?_
  refine Sm_eq (st1 := .int p2.1 :: []) (nc1 := 0) (ns1 := 0) rfl rfl rfl ?_
  refine Sm_if_eq K (eo ek_K_later (i := 13) rfl) (fun c4 => ?_) (fun c4 => ?_)
  · rw [if_pos c4] at h
    exact Sm_le (leR_s (leR_n (leR_n (leR_n (leR_n leR_nil))))) (s_K_later_42 K hQ _ _ h)
  · rw [if_neg c4] at h
    refine Sm_run K ek_K_later 14 1 rfl ?_
    refine Sm_if_eq K (eo ek_K_later (i := 15) rfl) (fun c5 => ?_) (fun c5 => ?_)
    · rw [if_pos c5] at h
      exact Sm_le (leR_s (leR_n (leR_n (leR_n (leR_n leR_nil))))) (s_K_later_42 K hQ _ _ h)
    · rw [if_neg c5] at h
      refine Sm_run K ek_K_later 16 3 rfl ?_
      obtain ⟨p6, e_p6, h⟩ := Option.bind_eq_some_iff.mp h
      refine Sm_callS K (eok_i (eo ek_K_later (i := 19) rfl) rfl) cy_K_within st_K_within (lgm 243 (by decide +kernel) rfl) ⟨Nat.le_of_ble_eq_true rfl, Nat.le_of_ble_eq_true rfl⟩ (as := [.int x3, .int 0, .int 100]) (st := []) rfl rfl rfl (Nat.le_of_ble_eq_true rfl) ⟨Nat.le_of_ble_eq_true rfl, Nat.le_of_ble_eq_true rfl⟩ (cn_K_within e_p6) ?_
      refine Sm_eq (st1 := .int p6.1 :: []) (nc1 := 0) (ns1 := 0) rfl rfl rfl ?_
      refine Sm_if_ne K (eo ek_K_later (i := 20) rfl) (fun c7 => ?_) (fun c7 => ?_)
      · rw [if_neg c7] at h
        refine Sm_run K ek_K_later 25 2 rfl ?_
        obtain ⟨o9, e_o9, h⟩ := Option.bind_eq_some_iff.mp h
        obtain ⟨p8, e_p8, h⟩ := Option.bind_eq_some_iff.mp h
        refine Sm_callV K (eok_i (eo ek_K_later (i := 27) rfl) rfl) cy_K_tryDays im_K_tryDays se_K_tryDays (lgm 413 (by decide +kernel) rfl) ⟨Nat.le_of_ble_eq_true rfl, Nat.le_of_ble_eq_true rfl⟩ (as := [.int x3]) (b := t) (st := []) (ob_e e_o9) (by decide) rfl rfl rfl rfl (Nat.le_of_ble_eq_true rfl) ⟨Nat.le_of_ble_eq_true rfl, Nat.le_of_ble_eq_true rfl⟩ (cn_K_tryDays e_p8) ?_
        refine Sm_eq (st1 := []) (nc1 := 0) (ns1 := 0) rfl rfl rfl ?_
        refine Sm_run K ek_K_later 28 1 rfl ?_
        obtain ⟨a10, e_a10, h⟩ := Option.bind_eq_some_iff.mp h
        refine Sm_gr K (eo ek_K_later (i := 29) rfl) e_a10 ?_
        refine Sm_run K ek_K_later 30 1 rfl ?_
        obtain ⟨o12, e_o12, h⟩ := Option.bind_eq_some_iff.mp h
        obtain ⟨p11, e_p11, h⟩ := Option.bind_eq_some_iff.mp h
        refine Sm_callV K (eok_i (eo ek_K_later (i := 31) rfl) rfl) cy_R_girlRow im_R_girlRow se_R_girlRow (lgm 341 (by decide +kernel) rfl) ⟨Nat.le_of_ble_eq_true rfl, Nat.le_of_ble_eq_true rfl⟩ (as := [.int x2]) (b := a10) (st := []) (ob_e e_o12) (by decide) rfl rfl rfl rfl (Nat.le_of_ble_eq_true rfl) ⟨Nat.le_of_ble_eq_true rfl, Nat.le_of_ble_eq_true rfl⟩ (cn_R_girlRow e_p11) ?_
        refine Sm_eq (st1 := .ref p11.1 :: []) (nc1 := 0) (ns1 := 0) rfl rfl rfl ?_
        refine Sm_run K ek_K_later 32 1 rfl ?_
        obtain ⟨v13, e_v13, h⟩ := Option.bind_eq_some_iff.mp h
        refine Sm_rd K (eok_i (eo ek_K_later (i := 33) rfl) rfl) e_v13 ?_
        obtain rfl := Option.some.inj h
        exact Sm_reti K hQ (eok_i (eo ek_K_later (i := 34) rfl) rfl)
      · rw [if_pos c7] at h
        exact Sm_le (leR_s (leR_n (leR_n (leR_n (leR_n leR_nil))))) (s_K_later_42 K hQ _ _ h)
set_option maxHeartbeats 4000000 in
set_option maxRecDepth 100000 in
theorem s_K_later_9 {G : Gx} {X : Cx} {res : Int32 × A_W} (K : Ok G X 0 c_K_later 5 (some .int) rm_K_later) (hQ : QQ G X (some (.int res.1)) res.2 0 0) (t : Nat) (x1 : Int32) (x2 : Int32) (x3 : Int32) (w : A_W) (h : F_K_later_9 t x1 x2 x3 w = some res) : Sm G X w 0 0 [some (.ref t), some (.int x1), some (.int x2), some (.int x3), none] [] 9 := by
  unfold F_K_later_9 at h
  refine Sm_run K ek_K_later 5 2 rfl ?_
  exact Sm_le (leR_s (leR_s (leR_s (leR_s (leR_n leR_nil))))) (s_K_later_14 K hQ _ _ _ _ _ _ h)
set_option maxHeartbeats 4000000 in
set_option maxRecDepth 100000 in
theorem s_K_later_0 {G : Gx} {X : Cx} {res : Int32 × A_W} (K : Ok G X 0 c_K_later 5 (some .int) rm_K_later) (hQ : QQ G X (some (.int res.1)) res.2 0 0) (t : Nat) (x1 : Int32) (x2 : Int32) (x3 : Int32) (w : A_W) (h : F_K_later_0 t x1 x2 x3 w = some res) : Sm G X w 0 0 [some (.ref t), some (.int x1), some (.int x2), some (.int x3), none] [] 0 := by
  unfold F_K_later_0 at h
  refine Sm_run K ek_K_later 0 1 rfl ?_
  refine Sm_if_eq K (eo ek_K_later (i := 1) rfl) (fun c1 => ?_) (fun c1 => ?_)
  · rw [if_pos c1] at h
    exact Sm_le (leR_s (leR_s (leR_s (leR_s (leR_n leR_nil))))) (s_K_later_9 K hQ _ _ _ _ _ h)
  · rw [if_neg c1] at h
    refine Sm_run K ek_K_later 2 2 rfl ?_
    refine Sm_ic_ne K (eo ek_K_later (i := 4) rfl) (fun c2 => ?_) (fun c2 => ?_)
    · rw [if_neg c2] at h
      refine Sm_run K ek_K_later 7 1 rfl ?_
      exact Sm_le (leR_s (leR_s (leR_s (leR_s (leR_n leR_nil))))) (s_K_later_14 K hQ _ _ _ _ _ _ h)
    · rw [if_pos c2] at h
      exact Sm_le (leR_s (leR_s (leR_s (leR_s (leR_n leR_nil))))) (s_K_later_9 K hQ _ _ _ _ _ h)
def F_K_later (t : Nat) (x1 : Int32) (x2 : Int32) (x3 : Int32) (w : A_W) : Option (Int32 × A_W) := F_K_later_0 t x1 x2 x3 w
theorem cn_K_later {G : Gx} {t : Nat} {x1 : Int32} {x2 : Int32} {x3 : Int32} {w : A_W} {res : Int32 × A_W} (h : F_K_later t x1 x2 x3 w = some res) : Cn G y_K_later c_K_later 5 (some .int) rm_K_later [.ref t, .int x1, .int x2, .int x3] w (some (.int res.1)) res.2 :=
  Cn_of (own := 0) cy_K_later rfl rfl (Nat.le_of_ble_eq_true rfl) rfl (fun X K _ hQ => Sm_le (leR_s (leR_s (leR_s (leR_s (leR_n leR_nil))))) (s_K_later_0 K hQ _ _ _ _ _ h))
/-! EveningCloak.dawn(II)I -/
abbrev c_K_dawn : ByteArray := prog_1_method_16_code
def y_K_dawn : MethodName := ⟨"EveningCloak", "dawn", "(II)I"⟩
def rm_K_dawn : Room := { frames := 6, cells := 0, slots := 0, locals := 134 }
theorem cy_K_dawn : Cy y_K_dawn c_K_dawn 3 (some .int) 2 := ⟨lgm 431 (by decide +kernel) rfl, lgm 68 (by decide +kernel) rfl, by decide +kernel, by decide +kernel⟩
theorem im_K_dawn : Cond.instanceMethod y_K_dawn ∈ lg := lgm 429 (by decide +kernel) rfl
theorem se_K_dawn : Cond.selects y_K_dawn.cls y_K_dawn y_K_dawn ∈ lg := lgm 430 (by decide +kernel) rfl
def e_K_dawn : List Ent := [
  (0, .iload_n 1, 1, 1, .null, 0, 0, 0),
  (1, .invokestatic 44, 3, 4, .null, 0, 0, 0),
  (4, .ifCond .eq 13, 3, 17, .null, 0, 0, 0),
  (7, .iload_n 2, 1, 8, .null, 0, 0, 0),
  (8, .iconst 0, 1, 9, .int 0, 0, 0, 0),
  (9, .bipush 100, 2, 11, .int 100, 0, 0, 0),
  (11, .invokestatic 40, 3, 14, .null, 0, 0, 0),
  (14, .ifCond .ne 9, 3, 23, .null, 0, 0, 0),
  (17, .aload_n 0, 1, 18, .null, 0, 0, 0),
  (18, .iconst 0, 1, 19, .int 0, 0, 0, 0),
  (19, .invokevirtual 48, 3, 22, .null, 0, 0, 0),
  (22, .ireturn, 1, 23, .null, 0, 0, 0),
  (23, .aload_n 0, 1, 24, .null, 0, 0, 0),
  (24, .iload_n 2, 1, 25, .null, 0, 0, 0),
  (25, .invokevirtual 139, 3, 28, .null, 0, 0, 0),
  (28, .aload_n 0, 1, 29, .null, 0, 0, 0),
  (29, .getfield 16, 3, 32, .null, 0, 1, 218),
  (32, .iload_n 1, 1, 33, .null, 0, 0, 0),
  (33, .invokevirtual 100, 3, 36, .null, 0, 0, 0),
  (36, .ireturn, 1, 37, .null, 0, 0, 0)]
set_option maxRecDepth 100000 in
theorem ek_K_dawn : e_K_dawn.all (eok 0 c_K_dawn) = true := by decide +kernel
def F_K_dawn_17 (t : Nat) (w : A_W) : Option (Int32 × A_W) :=
  (ob w t 0).bind fun o2 =>
  (F_K_finding t 0 w).bind fun p1 =>
  some (p1.1, p1.2)
def F_K_dawn_0 (t : Nat) (x1 : Int32) (x2 : Int32) (w : A_W) : Option (Int32 × A_W) :=
  (F_K_isHanger x1 w).bind fun p1 =>
  if p1.1 = 0 then
    F_K_dawn_17 t p1.2
  else
    (F_K_within x2 0 100 p1.2).bind fun p3 =>
    if p3.1 = 0 then
      F_K_dawn_17 t p3.2
    else
      (ob p3.2 t 0).bind fun o6 =>
      (F_K_tryDays t x2 p3.2).bind fun p5 =>
      (gr p5 t 0 1).bind fun a7 =>
      (ob p5 a7 2).bind fun o9 =>
      (F_R_lightAt a7 x1 p5).bind fun p8 =>
      some (p8.1, p8.2)
set_option maxHeartbeats 4000000 in
set_option maxRecDepth 100000 in
theorem s_K_dawn_17 {G : Gx} {X : Cx} {res : Int32 × A_W} (K : Ok G X 0 c_K_dawn 3 (some .int) rm_K_dawn) (hQ : QQ G X (some (.int res.1)) res.2 0 0) (t : Nat) (w : A_W) (h : F_K_dawn_17 t w = some res) : Sm G X w 0 0 [some (.ref t), none, none] [] 17 := by
  unfold F_K_dawn_17 at h
  refine Sm_run K ek_K_dawn 8 2 rfl ?_
  obtain ⟨o2, e_o2, h⟩ := Option.bind_eq_some_iff.mp h
  obtain ⟨p1, e_p1, h⟩ := Option.bind_eq_some_iff.mp h
  refine Sm_callV K (eok_i (eo ek_K_dawn (i := 10) rfl) rfl) cy_K_finding im_K_finding se_K_finding (lgm 249 (by decide +kernel) rfl) ⟨Nat.le_of_ble_eq_true rfl, Nat.le_of_ble_eq_true rfl⟩ (as := [.int 0]) (b := t) (st := []) (ob_e e_o2) (by decide) rfl rfl rfl rfl (Nat.le_of_ble_eq_true rfl) ⟨Nat.le_of_ble_eq_true rfl, Nat.le_of_ble_eq_true rfl⟩ (cn_K_finding e_p1) ?_
  refine Sm_eq (st1 := .int p1.1 :: []) (nc1 := 0) (ns1 := 0) rfl rfl rfl ?_
  obtain rfl := Option.some.inj h
  exact Sm_reti K hQ (eok_i (eo ek_K_dawn (i := 11) rfl) rfl)
set_option maxHeartbeats 4000000 in
set_option maxRecDepth 100000 in
theorem s_K_dawn_0 {G : Gx} {X : Cx} {res : Int32 × A_W} (K : Ok G X 0 c_K_dawn 3 (some .int) rm_K_dawn) (hQ : QQ G X (some (.int res.1)) res.2 0 0) (t : Nat) (x1 : Int32) (x2 : Int32) (w : A_W) (h : F_K_dawn_0 t x1 x2 w = some res) : Sm G X w 0 0 [some (.ref t), some (.int x1), some (.int x2)] [] 0 := by
  unfold F_K_dawn_0 at h
  refine Sm_run K ek_K_dawn 0 1 rfl ?_
  obtain ⟨p1, e_p1, h⟩ := Option.bind_eq_some_iff.mp h
  refine Sm_callS K (eok_i (eo ek_K_dawn (i := 1) rfl) rfl) cy_K_isHanger st_K_isHanger (lgm 246 (by decide +kernel) rfl) ⟨Nat.le_of_ble_eq_true rfl, Nat.le_of_ble_eq_true rfl⟩ (as := [.int x1]) (st := []) rfl rfl rfl (Nat.le_of_ble_eq_true rfl) ⟨Nat.le_of_ble_eq_true rfl, Nat.le_of_ble_eq_true rfl⟩ (cn_K_isHanger e_p1) ?_
  refine Sm_eq (st1 := .int p1.1 :: []) (nc1 := 0) (ns1 := 0) rfl rfl rfl ?_
  refine Sm_if_eq K (eo ek_K_dawn (i := 2) rfl) (fun c2 => ?_) (fun c2 => ?_)
  · rw [if_pos c2] at h
    exact Sm_le (leR_s (leR_n (leR_n leR_nil))) (s_K_dawn_17 K hQ _ _ h)
  · rw [if_neg c2] at h
    refine Sm_run K ek_K_dawn 3 3 rfl ?_
    obtain ⟨p3, e_p3, h⟩ := Option.bind_eq_some_iff.mp h
    refine Sm_callS K (eok_i (eo ek_K_dawn (i := 6) rfl) rfl) cy_K_within st_K_within (lgm 243 (by decide +kernel) rfl) ⟨Nat.le_of_ble_eq_true rfl, Nat.le_of_ble_eq_true rfl⟩ (as := [.int x2, .int 0, .int 100]) (st := []) rfl rfl rfl (Nat.le_of_ble_eq_true rfl) ⟨Nat.le_of_ble_eq_true rfl, Nat.le_of_ble_eq_true rfl⟩ (cn_K_within e_p3) ?_
    refine Sm_eq (st1 := .int p3.1 :: []) (nc1 := 0) (ns1 := 0) rfl rfl rfl ?_
    refine Sm_if_ne K (eo ek_K_dawn (i := 7) rfl) (fun c4 => ?_) (fun c4 => ?_)
    · rw [if_neg c4] at h
      refine Sm_run K ek_K_dawn 12 2 rfl ?_
      obtain ⟨o6, e_o6, h⟩ := Option.bind_eq_some_iff.mp h
      obtain ⟨p5, e_p5, h⟩ := Option.bind_eq_some_iff.mp h
      refine Sm_callV K (eok_i (eo ek_K_dawn (i := 14) rfl) rfl) cy_K_tryDays im_K_tryDays se_K_tryDays (lgm 413 (by decide +kernel) rfl) ⟨Nat.le_of_ble_eq_true rfl, Nat.le_of_ble_eq_true rfl⟩ (as := [.int x2]) (b := t) (st := []) (ob_e e_o6) (by decide) rfl rfl rfl rfl (Nat.le_of_ble_eq_true rfl) ⟨Nat.le_of_ble_eq_true rfl, Nat.le_of_ble_eq_true rfl⟩ (cn_K_tryDays e_p5) ?_
      refine Sm_eq (st1 := []) (nc1 := 0) (ns1 := 0) rfl rfl rfl ?_
      refine Sm_run K ek_K_dawn 15 1 rfl ?_
      obtain ⟨a7, e_a7, h⟩ := Option.bind_eq_some_iff.mp h
      refine Sm_gr K (eo ek_K_dawn (i := 16) rfl) e_a7 ?_
      refine Sm_run K ek_K_dawn 17 1 rfl ?_
      obtain ⟨o9, e_o9, h⟩ := Option.bind_eq_some_iff.mp h
      obtain ⟨p8, e_p8, h⟩ := Option.bind_eq_some_iff.mp h
      refine Sm_callV K (eok_i (eo ek_K_dawn (i := 18) rfl) rfl) cy_R_lightAt im_R_lightAt se_R_lightAt (lgm 357 (by decide +kernel) rfl) ⟨Nat.le_of_ble_eq_true rfl, Nat.le_of_ble_eq_true rfl⟩ (as := [.int x1]) (b := a7) (st := []) (ob_e e_o9) (by decide) rfl rfl rfl rfl (Nat.le_of_ble_eq_true rfl) ⟨Nat.le_of_ble_eq_true rfl, Nat.le_of_ble_eq_true rfl⟩ (cn_R_lightAt e_p8) ?_
      refine Sm_eq (st1 := .int p8.1 :: []) (nc1 := 0) (ns1 := 0) rfl rfl rfl ?_
      obtain rfl := Option.some.inj h
      exact Sm_reti K hQ (eok_i (eo ek_K_dawn (i := 19) rfl) rfl)
    · rw [if_pos c4] at h
      exact Sm_le (leR_s (leR_n (leR_n leR_nil))) (s_K_dawn_17 K hQ _ _ h)
def F_K_dawn (t : Nat) (x1 : Int32) (x2 : Int32) (w : A_W) : Option (Int32 × A_W) := F_K_dawn_0 t x1 x2 w
theorem cn_K_dawn {G : Gx} {t : Nat} {x1 : Int32} {x2 : Int32} {w : A_W} {res : Int32 × A_W} (h : F_K_dawn t x1 x2 w = some res) : Cn G y_K_dawn c_K_dawn 3 (some .int) rm_K_dawn [.ref t, .int x1, .int x2] w (some (.int res.1)) res.2 :=
  Cn_of (own := 0) cy_K_dawn rfl rfl (Nat.le_of_ble_eq_true rfl) rfl (fun X K _ hQ => Sm_le (leR_s (leR_s (leR_s leR_nil))) (s_K_dawn_0 K hQ _ _ _ _ h))
/-! EveningCloak$Room.gauge(II)I -/
abbrev c_R_gauge : ByteArray := prog_3_method_10_code
def y_R_gauge : MethodName := ⟨"EveningCloak$Room", "gauge", "(II)I"⟩
def rm_R_gauge : Room := { frames := 0, cells := 0, slots := 0, locals := 0 }
theorem cy_R_gauge : Cy y_R_gauge c_R_gauge 3 (some .int) 2 := ⟨lgm 443 (by decide +kernel) rfl, lgm 69 (by decide +kernel) rfl, by decide +kernel, by decide +kernel⟩
theorem im_R_gauge : Cond.instanceMethod y_R_gauge ∈ lg := lgm 441 (by decide +kernel) rfl
theorem se_R_gauge : Cond.selects y_R_gauge.cls y_R_gauge y_R_gauge ∈ lg := lgm 442 (by decide +kernel) rfl
def e_R_gauge : List Ent := [
  (0, .iload_n 1, 1, 1, .null, 0, 0, 0),
  (1, .lookupswitch 41 #[(0, 27), (1, 34)], 27, 28, .null, 0, 0, 0),
  (28, .aload_n 0, 1, 29, .null, 0, 0, 0),
  (29, .getfield 43, 3, 32, .null, 2, 14, 133),
  (32, .iload_n 2, 1, 33, .null, 0, 0, 0),
  (33, .iaload, 1, 34, .null, 0, 0, 0),
  (34, .ireturn, 1, 35, .null, 0, 0, 0),
  (35, .aload_n 0, 1, 36, .null, 0, 0, 0),
  (36, .getfield 31, 3, 39, .null, 2, 10, 122),
  (39, .iload_n 2, 1, 40, .null, 0, 0, 0),
  (40, .iaload, 1, 41, .null, 0, 0, 0),
  (41, .ireturn, 1, 42, .null, 0, 0, 0),
  (42, .aload_n 0, 1, 43, .null, 0, 0, 0),
  (43, .getfield 58, 3, 46, .null, 2, 1, 100),
  (46, .ireturn, 1, 47, .null, 0, 0, 0)]
set_option maxRecDepth 100000 in
theorem ek_R_gauge : e_R_gauge.all (eok 2 c_R_gauge) = true := by decide +kernel
def F_R_gauge_0 (t : Nat) (x1 : Int32) (x2 : Int32) (w : A_W) : Option (Int32 × A_W) :=
  if x1 = 0 then
    (gr w t 2 14).bind fun a1 =>
    (rd w a1 x2).bind fun v2 =>
    some (v2, w)
  else if x1 = 1 then
    (gr w t 2 10).bind fun a4 =>
    (rd w a4 x2).bind fun v5 =>
    some (v5, w)
  else
    (gi w t 2 1).bind fun v7 =>
    some (v7, w)
set_option maxHeartbeats 4000000 in
set_option maxRecDepth 100000 in
theorem s_R_gauge_0 {G : Gx} {X : Cx} {res : Int32 × A_W} (K : Ok G X 2 c_R_gauge 3 (some .int) rm_R_gauge) (hQ : QQ G X (some (.int res.1)) res.2 0 0) (t : Nat) (x1 : Int32) (x2 : Int32) (w : A_W) (h : F_R_gauge_0 t x1 x2 w = some res) : Sm G X w 0 0 [some (.ref t), some (.int x1), some (.int x2)] [] 0 := by
  unfold F_R_gauge_0 at h
  refine Sm_run K ek_R_gauge 0 1 rfl ?_
  by_cases c3 : x1 = 0
  · rw [if_pos c3] at h
    refine Sm_lsw K (eok_d (eo ek_R_gauge (i := 1) rfl)) (by decide) 28 (by rw [c3]; decide) ?_
    refine Sm_run K ek_R_gauge 2 1 rfl ?_
    obtain ⟨a1, e_a1, h⟩ := Option.bind_eq_some_iff.mp h
    refine Sm_gr K (eo ek_R_gauge (i := 3) rfl) e_a1 ?_
    refine Sm_run K ek_R_gauge 4 1 rfl ?_
    obtain ⟨v2, e_v2, h⟩ := Option.bind_eq_some_iff.mp h
    refine Sm_rd K (eok_i (eo ek_R_gauge (i := 5) rfl) rfl) e_v2 ?_
    obtain rfl := Option.some.inj h
    exact Sm_reti K hQ (eok_i (eo ek_R_gauge (i := 6) rfl) rfl)
  rw [if_neg c3] at h
  by_cases c6 : x1 = 1
  · rw [if_pos c6] at h
    refine Sm_lsw K (eok_d (eo ek_R_gauge (i := 1) rfl)) (by decide) 35 (by rw [c6]; decide) ?_
    refine Sm_run K ek_R_gauge 7 1 rfl ?_
    obtain ⟨a4, e_a4, h⟩ := Option.bind_eq_some_iff.mp h
    refine Sm_gr K (eo ek_R_gauge (i := 8) rfl) e_a4 ?_
    refine Sm_run K ek_R_gauge 9 1 rfl ?_
    obtain ⟨v5, e_v5, h⟩ := Option.bind_eq_some_iff.mp h
    refine Sm_rd K (eok_i (eo ek_R_gauge (i := 10) rfl) rfl) e_v5 ?_
    obtain rfl := Option.some.inj h
    exact Sm_reti K hQ (eok_i (eo ek_R_gauge (i := 11) rfl) rfl)
  rw [if_neg c6] at h
  refine Sm_lsw K (eok_d (eo ek_R_gauge (i := 1) rfl)) (by decide) 42 (lsw_out (ps2 := [(0, 27), (1, 34)]) rfl (by decide) (fun q hq => by simp only [List.mem_cons, List.not_mem_nil, or_false] at hq; rcases hq with rfl | rfl <;> intro hz <;> first | exact absurd (Int32.toInt_inj.mp (hz.trans (by decide : _ = (0 : Int32).toInt))) c3 | exact absurd (Int32.toInt_inj.mp (hz.trans (by decide : _ = (1 : Int32).toInt))) c6)) ?_
  refine Sm_run K ek_R_gauge 12 1 rfl ?_
  obtain ⟨v7, e_v7, h⟩ := Option.bind_eq_some_iff.mp h
  refine Sm_gi K (eo ek_R_gauge (i := 13) rfl) e_v7 ?_
  obtain rfl := Option.some.inj h
  exact Sm_reti K hQ (eok_i (eo ek_R_gauge (i := 14) rfl) rfl)
def F_R_gauge (t : Nat) (x1 : Int32) (x2 : Int32) (w : A_W) : Option (Int32 × A_W) := F_R_gauge_0 t x1 x2 w
theorem cn_R_gauge {G : Gx} {t : Nat} {x1 : Int32} {x2 : Int32} {w : A_W} {res : Int32 × A_W} (h : F_R_gauge t x1 x2 w = some res) : Cn G y_R_gauge c_R_gauge 3 (some .int) rm_R_gauge [.ref t, .int x1, .int x2] w (some (.int res.1)) res.2 :=
  Cn_of (own := 2) cy_R_gauge rfl rfl (Nat.le_of_ble_eq_true rfl) rfl (fun X K _ hQ => Sm_le (leR_s (leR_s (leR_s leR_nil))) (s_R_gauge_0 K hQ _ _ _ _ h))
/-! EveningCloak.fewestDays(III)I -/
abbrev c_K_fewestDays : ByteArray := prog_1_method_56_code
def y_K_fewestDays : MethodName := ⟨"EveningCloak", "fewestDays", "(III)I"⟩
def rm_K_fewestDays : Room := { frames := 5, cells := 0, slots := 0, locals := 113 }
theorem cy_K_fewestDays : Cy y_K_fewestDays c_K_fewestDays 5 (some .int) 3 := ⟨lgm 439 (by decide +kernel) rfl, lgm 68 (by decide +kernel) rfl, by decide +kernel, by decide +kernel⟩
theorem im_K_fewestDays : Cond.instanceMethod y_K_fewestDays ∈ lg := lgm 438 (by decide +kernel) rfl
theorem se_K_fewestDays : Cond.selects y_K_fewestDays.cls y_K_fewestDays y_K_fewestDays ∈ lg := lgm 2 (by decide +kernel) rfl
def e_K_fewestDays : List Ent := [
  (0, .aload_n 0, 1, 1, .null, 0, 0, 0),
  (1, .getfield 16, 3, 4, .null, 0, 1, 218),
  (4, .aload_n 0, 1, 5, .null, 0, 0, 0),
  (5, .getfield 12, 3, 8, .null, 0, 0, 217),
  (8, .invokevirtual 187, 3, 11, .null, 0, 0, 0),
  (11, .iconst 0, 1, 12, .int 0, 0, 0, 0),
  (12, .istore 4, 2, 14, .null, 0, 0, 0),
  (14, .iload 4, 2, 16, .null, 0, 0, 0),
  (16, .sipush 200, 3, 19, .int 200, 0, 0, 0),
  (19, .if_icmp .gt 33, 3, 52, .null, 0, 0, 0),
  (22, .aload_n 0, 1, 23, .null, 0, 0, 0),
  (23, .getfield 16, 3, 26, .null, 0, 1, 218),
  (26, .iload_n 1, 1, 27, .null, 0, 0, 0),
  (27, .iload_n 2, 1, 28, .null, 0, 0, 0),
  (28, .invokevirtual 261, 3, 31, .null, 0, 0, 0),
  (31, .iload_n 3, 1, 32, .null, 0, 0, 0),
  (32, .if_icmp .lt 6, 3, 38, .null, 0, 0, 0),
  (35, .iload 4, 2, 37, .null, 0, 0, 0),
  (37, .ireturn, 1, 38, .null, 0, 0, 0),
  (38, .aload_n 0, 1, 39, .null, 0, 0, 0),
  (39, .getfield 16, 3, 42, .null, 0, 1, 218),
  (42, .iconst 1, 1, 43, .int 1, 0, 0, 0),
  (43, .invokevirtual 113, 3, 46, .null, 0, 0, 0),
  (46, .iinc 4 1, 3, 49, .int 1, 0, 0, 0),
  (49, .goto (-35), 3, 14, .null, 0, 0, 0),
  (52, .aload_n 0, 1, 53, .null, 0, 0, 0),
  (53, .iconst 3, 1, 54, .int 3, 0, 0, 0),
  (54, .invokevirtual 48, 3, 57, .null, 0, 0, 0),
  (57, .ireturn, 1, 58, .null, 0, 0, 0)]
set_option maxRecDepth 100000 in
theorem ek_K_fewestDays : e_K_fewestDays.all (eok 0 c_K_fewestDays) = true := by decide +kernel
def F_K_fewestDays_14 : Nat → Nat → Int32 → Int32 → Int32 → Int32 → A_W → Option (Int32 × A_W)
  | 0, _, _, _, _, _, _ => none
  | n + 1, t, x1, x2, x3, x4, w =>
    if 200 < x4 then
      (ob w t 0).bind fun o3 =>
      (F_K_finding t 3 w).bind fun p2 =>
      some (p2.1, p2.2)
    else
      (gr w t 0 1).bind fun a4 =>
      (ob w a4 2).bind fun o6 =>
      (F_R_gauge a4 x1 x2 w).bind fun p5 =>
      if p5.1 < x3 then
        (gr p5.2 t 0 1).bind fun a8 =>
        (ob p5.2 a8 2).bind fun o10 =>
        (F_R_passDays a8 1 p5.2).bind fun p9 =>
        F_K_fewestDays_14 n t x1 x2 x3 (x4 + 1) p9
      else
        some (x4, p5.2)
def F_K_fewestDays_0 (t : Nat) (x1 : Int32) (x2 : Int32) (x3 : Int32) (w : A_W) : Option (Int32 × A_W) :=
  (gr w t 0 1).bind fun a1 =>
  (gr w t 0 0).bind fun a2 =>
  (ob w a1 2).bind fun o4 =>
  (F_R_become a1 a2 w).bind fun p3 =>
  F_K_fewestDays_14 FU t x1 x2 x3 0 p3
set_option maxHeartbeats 4000000 in
set_option maxRecDepth 100000 in
theorem s_K_fewestDays_14 {G : Gx} {X : Cx} {res : Int32 × A_W} (K : Ok G X 0 c_K_fewestDays 5 (some .int) rm_K_fewestDays) (hQ : QQ G X (some (.int res.1)) res.2 0 0) : ∀ (n : Nat) (t : Nat) (x1 : Int32) (x2 : Int32) (x3 : Int32) (x4 : Int32) (w : A_W), F_K_fewestDays_14 n t x1 x2 x3 x4 w = some res → Sm G X w 0 0 [some (.ref t), some (.int x1), some (.int x2), some (.int x3), some (.int x4)] [] 14 := by
  intro n
  induction n with
  | zero => intro t x1 x2 x3 x4 w h; cases h
  | succ n ih =>
    intro t x1 x2 x3 x4 w h
    rw [F_K_fewestDays_14] at h
    refine Sm_run K ek_K_fewestDays 7 2 rfl ?_
    refine Sm_ic_gt K (eo ek_K_fewestDays (i := 9) rfl) (fun c1 => ?_) (fun c1 => ?_)
    · rw [if_pos c1] at h
      refine Sm_run K ek_K_fewestDays 25 2 rfl ?_
      obtain ⟨o3, e_o3, h⟩ := Option.bind_eq_some_iff.mp h
      obtain ⟨p2, e_p2, h⟩ := Option.bind_eq_some_iff.mp h
      refine Sm_callV K (eok_i (eo ek_K_fewestDays (i := 27) rfl) rfl) cy_K_finding im_K_finding se_K_finding (lgm 249 (by decide +kernel) rfl) ⟨Nat.le_of_ble_eq_true rfl, Nat.le_of_ble_eq_true rfl⟩ (as := [.int 3]) (b := t) (st := []) (ob_e e_o3) (by decide) rfl rfl rfl rfl (Nat.le_of_ble_eq_true rfl) ⟨Nat.le_of_ble_eq_true rfl, Nat.le_of_ble_eq_true rfl⟩ (cn_K_finding e_p2) ?_
      refine Sm_eq (st1 := .int p2.1 :: []) (nc1 := 0) (ns1 := 0) rfl rfl rfl ?_
      obtain rfl := Option.some.inj h
      exact Sm_reti K hQ (eok_i (eo ek_K_fewestDays (i := 28) rfl) rfl)
    · rw [if_neg c1] at h
      refine Sm_run K ek_K_fewestDays 10 1 rfl ?_
      obtain ⟨a4, e_a4, h⟩ := Option.bind_eq_some_iff.mp h
      refine Sm_gr K (eo ek_K_fewestDays (i := 11) rfl) e_a4 ?_
      refine Sm_run K ek_K_fewestDays 12 2 rfl ?_
      obtain ⟨o6, e_o6, h⟩ := Option.bind_eq_some_iff.mp h
      obtain ⟨p5, e_p5, h⟩ := Option.bind_eq_some_iff.mp h
      refine Sm_callV K (eok_i (eo ek_K_fewestDays (i := 14) rfl) rfl) cy_R_gauge im_R_gauge se_R_gauge (lgm 440 (by decide +kernel) rfl) ⟨Nat.le_of_ble_eq_true rfl, Nat.le_of_ble_eq_true rfl⟩ (as := [.int x1, .int x2]) (b := a4) (st := []) (ob_e e_o6) (by decide) rfl rfl rfl rfl (Nat.le_of_ble_eq_true rfl) ⟨Nat.le_of_ble_eq_true rfl, Nat.le_of_ble_eq_true rfl⟩ (cn_R_gauge e_p5) ?_
      refine Sm_eq (st1 := .int p5.1 :: []) (nc1 := 0) (ns1 := 0) rfl rfl rfl ?_
      refine Sm_run K ek_K_fewestDays 15 1 rfl ?_
      refine Sm_ic_lt K (eo ek_K_fewestDays (i := 16) rfl) (fun c7 => ?_) (fun c7 => ?_)
      · rw [if_pos c7] at h
        refine Sm_run K ek_K_fewestDays 19 1 rfl ?_
        obtain ⟨a8, e_a8, h⟩ := Option.bind_eq_some_iff.mp h
        refine Sm_gr K (eo ek_K_fewestDays (i := 20) rfl) e_a8 ?_
        refine Sm_run K ek_K_fewestDays 21 1 rfl ?_
        obtain ⟨o10, e_o10, h⟩ := Option.bind_eq_some_iff.mp h
        obtain ⟨p9, e_p9, h⟩ := Option.bind_eq_some_iff.mp h
        refine Sm_callV K (eok_i (eo ek_K_fewestDays (i := 22) rfl) rfl) cy_R_passDays im_R_passDays se_R_passDays (lgm 367 (by decide +kernel) rfl) ⟨Nat.le_of_ble_eq_true rfl, Nat.le_of_ble_eq_true rfl⟩ (as := [.int 1]) (b := a8) (st := []) (ob_e e_o10) (by decide) rfl rfl rfl rfl (Nat.le_of_ble_eq_true rfl) ⟨Nat.le_of_ble_eq_true rfl, Nat.le_of_ble_eq_true rfl⟩ (cn_R_passDays e_p9) ?_
        refine Sm_eq (st1 := []) (nc1 := 0) (ns1 := 0) rfl rfl rfl ?_
        refine Sm_run K ek_K_fewestDays 23 2 rfl ?_
        exact Sm_le (leR_s (leR_s (leR_s (leR_s (leR_s leR_nil))))) (ih _ _ _ _ _ _ h)
      · rw [if_neg c7] at h
        refine Sm_run K ek_K_fewestDays 17 1 rfl ?_
        obtain rfl := Option.some.inj h
        exact Sm_reti K hQ (eok_i (eo ek_K_fewestDays (i := 18) rfl) rfl)
set_option maxHeartbeats 4000000 in
set_option maxRecDepth 100000 in
theorem s_K_fewestDays_0 {G : Gx} {X : Cx} {res : Int32 × A_W} (K : Ok G X 0 c_K_fewestDays 5 (some .int) rm_K_fewestDays) (hQ : QQ G X (some (.int res.1)) res.2 0 0) (t : Nat) (x1 : Int32) (x2 : Int32) (x3 : Int32) (w : A_W) (h : F_K_fewestDays_0 t x1 x2 x3 w = some res) : Sm G X w 0 0 [some (.ref t), some (.int x1), some (.int x2), some (.int x3), none] [] 0 := by
  unfold F_K_fewestDays_0 at h
  refine Sm_run K ek_K_fewestDays 0 1 rfl ?_
  obtain ⟨a1, e_a1, h⟩ := Option.bind_eq_some_iff.mp h
  refine Sm_gr K (eo ek_K_fewestDays (i := 1) rfl) e_a1 ?_
  refine Sm_run K ek_K_fewestDays 2 1 rfl ?_
  obtain ⟨a2, e_a2, h⟩ := Option.bind_eq_some_iff.mp h
  refine Sm_gr K (eo ek_K_fewestDays (i := 3) rfl) e_a2 ?_
  obtain ⟨o4, e_o4, h⟩ := Option.bind_eq_some_iff.mp h
  obtain ⟨p3, e_p3, h⟩ := Option.bind_eq_some_iff.mp h
  refine Sm_callV K (eok_i (eo ek_K_fewestDays (i := 4) rfl) rfl) cy_R_become im_R_become se_R_become (lgm 417 (by decide +kernel) rfl) ⟨Nat.le_of_ble_eq_true rfl, Nat.le_of_ble_eq_true rfl⟩ (as := [.ref a2]) (b := a1) (st := []) (ob_e e_o4) (by decide) rfl rfl rfl rfl (Nat.le_of_ble_eq_true rfl) ⟨Nat.le_of_ble_eq_true rfl, Nat.le_of_ble_eq_true rfl⟩ (cn_R_become e_p3) ?_
  refine Sm_eq (st1 := []) (nc1 := 0) (ns1 := 0) rfl rfl rfl ?_
  refine Sm_run K ek_K_fewestDays 5 2 rfl ?_
  exact Sm_le (leR_s (leR_s (leR_s (leR_s (leR_s leR_nil))))) (s_K_fewestDays_14 K hQ FU _ _ _ _ _ _ h)
def F_K_fewestDays (t : Nat) (x1 : Int32) (x2 : Int32) (x3 : Int32) (w : A_W) : Option (Int32 × A_W) := F_K_fewestDays_0 t x1 x2 x3 w
theorem cn_K_fewestDays {G : Gx} {t : Nat} {x1 : Int32} {x2 : Int32} {x3 : Int32} {w : A_W} {res : Int32 × A_W} (h : F_K_fewestDays t x1 x2 x3 w = some res) : Cn G y_K_fewestDays c_K_fewestDays 5 (some .int) rm_K_fewestDays [.ref t, .int x1, .int x2, .int x3] w (some (.int res.1)) res.2 :=
  Cn_of (own := 0) cy_K_fewestDays rfl rfl (Nat.le_of_ble_eq_true rfl) rfl (fun X K _ hQ => Sm_le (leR_s (leR_s (leR_s (leR_s (leR_n leR_nil))))) (s_K_fewestDays_0 K hQ _ _ _ _ _ h))
/-! EveningCloak.meets(II)I -/
abbrev c_K_meets : ByteArray := prog_1_method_17_code
def y_K_meets : MethodName := ⟨"EveningCloak", "meets", "(II)I"⟩
def rm_K_meets : Room := { frames := 6, cells := 0, slots := 0, locals := 137 }
theorem cy_K_meets : Cy y_K_meets c_K_meets 3 (some .int) 2 := ⟨lgm 435 (by decide +kernel) rfl, lgm 68 (by decide +kernel) rfl, by decide +kernel, by decide +kernel⟩
theorem im_K_meets : Cond.instanceMethod y_K_meets ∈ lg := lgm 433 (by decide +kernel) rfl
theorem se_K_meets : Cond.selects y_K_meets.cls y_K_meets y_K_meets ∈ lg := lgm 434 (by decide +kernel) rfl
def e_K_meets : List Ent := [
  (0, .aload_n 0, 1, 1, .null, 0, 0, 0),
  (1, .getfield 12, 3, 4, .null, 0, 0, 217),
  (4, .iload_n 1, 1, 5, .null, 0, 0, 0),
  (5, .invokevirtual 88, 3, 8, .null, 0, 0, 0),
  (8, .ifCond .eq 14, 3, 22, .null, 0, 0, 0),
  (11, .iload_n 2, 1, 12, .null, 0, 0, 0),
  (12, .iconst 0, 1, 13, .int 0, 0, 0, 0),
  (13, .sipush 9999, 3, 16, .int 9999, 0, 0, 0),
  (16, .invokestatic 40, 3, 19, .null, 0, 0, 0),
  (19, .ifCond .ne 9, 3, 28, .null, 0, 0, 0),
  (22, .aload_n 0, 1, 23, .null, 0, 0, 0),
  (23, .iconst 0, 1, 24, .int 0, 0, 0, 0),
  (24, .invokevirtual 48, 3, 27, .null, 0, 0, 0),
  (27, .ireturn, 1, 28, .null, 0, 0, 0),
  (28, .aload_n 0, 1, 29, .null, 0, 0, 0),
  (29, .iconst 0, 1, 30, .int 0, 0, 0, 0),
  (30, .iload_n 1, 1, 31, .null, 0, 0, 0),
  (31, .iload_n 2, 1, 32, .null, 0, 0, 0),
  (32, .invokevirtual 142, 3, 35, .null, 0, 0, 0),
  (35, .ireturn, 1, 36, .null, 0, 0, 0)]
set_option maxRecDepth 100000 in
theorem ek_K_meets : e_K_meets.all (eok 0 c_K_meets) = true := by decide +kernel
def F_K_meets_22 (t : Nat) (w : A_W) : Option (Int32 × A_W) :=
  (ob w t 0).bind fun o2 =>
  (F_K_finding t 0 w).bind fun p1 =>
  some (p1.1, p1.2)
def F_K_meets_0 (t : Nat) (x1 : Int32) (x2 : Int32) (w : A_W) : Option (Int32 × A_W) :=
  (gr w t 0 0).bind fun a1 =>
  (ob w a1 2).bind fun o3 =>
  (F_R_hasGirl a1 x1 w).bind fun p2 =>
  if p2.1 = 0 then
    F_K_meets_22 t p2.2
  else
    (F_K_within x2 0 9999 p2.2).bind fun p5 =>
    if p5.1 = 0 then
      F_K_meets_22 t p5.2
    else
      (ob p5.2 t 0).bind fun o8 =>
      (F_K_fewestDays t 0 x1 x2 p5.2).bind fun p7 =>
      some (p7.1, p7.2)
set_option maxHeartbeats 4000000 in
set_option maxRecDepth 100000 in
theorem s_K_meets_22 {G : Gx} {X : Cx} {res : Int32 × A_W} (K : Ok G X 0 c_K_meets 3 (some .int) rm_K_meets) (hQ : QQ G X (some (.int res.1)) res.2 0 0) (t : Nat) (w : A_W) (h : F_K_meets_22 t w = some res) : Sm G X w 0 0 [some (.ref t), none, none] [] 22 := by
  unfold F_K_meets_22 at h
  refine Sm_run K ek_K_meets 10 2 rfl ?_
  obtain ⟨o2, e_o2, h⟩ := Option.bind_eq_some_iff.mp h
  obtain ⟨p1, e_p1, h⟩ := Option.bind_eq_some_iff.mp h
  refine Sm_callV K (eok_i (eo ek_K_meets (i := 12) rfl) rfl) cy_K_finding im_K_finding se_K_finding (lgm 249 (by decide +kernel) rfl) ⟨Nat.le_of_ble_eq_true rfl, Nat.le_of_ble_eq_true rfl⟩ (as := [.int 0]) (b := t) (st := []) (ob_e e_o2) (by decide) rfl rfl rfl rfl (Nat.le_of_ble_eq_true rfl) ⟨Nat.le_of_ble_eq_true rfl, Nat.le_of_ble_eq_true rfl⟩ (cn_K_finding e_p1) ?_
  refine Sm_eq (st1 := .int p1.1 :: []) (nc1 := 0) (ns1 := 0) rfl rfl rfl ?_
  obtain rfl := Option.some.inj h
  exact Sm_reti K hQ (eok_i (eo ek_K_meets (i := 13) rfl) rfl)
set_option maxHeartbeats 4000000 in
set_option maxRecDepth 100000 in
theorem s_K_meets_0 {G : Gx} {X : Cx} {res : Int32 × A_W} (K : Ok G X 0 c_K_meets 3 (some .int) rm_K_meets) (hQ : QQ G X (some (.int res.1)) res.2 0 0) (t : Nat) (x1 : Int32) (x2 : Int32) (w : A_W) (h : F_K_meets_0 t x1 x2 w = some res) : Sm G X w 0 0 [some (.ref t), some (.int x1), some (.int x2)] [] 0 := by
  unfold F_K_meets_0 at h
  refine Sm_run K ek_K_meets 0 1 rfl ?_
  obtain ⟨a1, e_a1, h⟩ := Option.bind_eq_some_iff.mp h
  refine Sm_gr K (eo ek_K_meets (i := 1) rfl) e_a1 ?_
  refine Sm_run K ek_K_meets 2 1 rfl ?_
  obtain ⟨o3, e_o3, h⟩ := Option.bind_eq_some_iff.mp h
  obtain ⟨p2, e_p2, h⟩ := Option.bind_eq_some_iff.mp h
  refine Sm_callV K (eok_i (eo ek_K_meets (i := 3) rfl) rfl) cy_R_hasGirl im_R_hasGirl se_R_hasGirl (lgm 337 (by decide +kernel) rfl) ⟨Nat.le_of_ble_eq_true rfl, Nat.le_of_ble_eq_true rfl⟩ (as := [.int x1]) (b := a1) (st := []) (ob_e e_o3) (by decide) rfl rfl rfl rfl (Nat.le_of_ble_eq_true rfl) ⟨Nat.le_of_ble_eq_true rfl, Nat.le_of_ble_eq_true rfl⟩ (cn_R_hasGirl e_p2) ?_
  refine Sm_eq (st1 := .int p2.1 :: []) (nc1 := 0) (ns1 := 0) rfl rfl rfl ?_
  refine Sm_if_eq K (eo ek_K_meets (i := 4) rfl) (fun c4 => ?_) (fun c4 => ?_)
  · rw [if_pos c4] at h
    exact Sm_le (leR_s (leR_n (leR_n leR_nil))) (s_K_meets_22 K hQ _ _ h)
  · rw [if_neg c4] at h
    refine Sm_run K ek_K_meets 5 3 rfl ?_
    obtain ⟨p5, e_p5, h⟩ := Option.bind_eq_some_iff.mp h
    refine Sm_callS K (eok_i (eo ek_K_meets (i := 8) rfl) rfl) cy_K_within st_K_within (lgm 243 (by decide +kernel) rfl) ⟨Nat.le_of_ble_eq_true rfl, Nat.le_of_ble_eq_true rfl⟩ (as := [.int x2, .int 0, .int 9999]) (st := []) rfl rfl rfl (Nat.le_of_ble_eq_true rfl) ⟨Nat.le_of_ble_eq_true rfl, Nat.le_of_ble_eq_true rfl⟩ (cn_K_within e_p5) ?_
    refine Sm_eq (st1 := .int p5.1 :: []) (nc1 := 0) (ns1 := 0) rfl rfl rfl ?_
    refine Sm_if_ne K (eo ek_K_meets (i := 9) rfl) (fun c6 => ?_) (fun c6 => ?_)
    · rw [if_neg c6] at h
      refine Sm_run K ek_K_meets 14 4 rfl ?_
      obtain ⟨o8, e_o8, h⟩ := Option.bind_eq_some_iff.mp h
      obtain ⟨p7, e_p7, h⟩ := Option.bind_eq_some_iff.mp h
      refine Sm_callV K (eok_i (eo ek_K_meets (i := 18) rfl) rfl) cy_K_fewestDays im_K_fewestDays se_K_fewestDays (lgm 436 (by decide +kernel) rfl) ⟨Nat.le_of_ble_eq_true rfl, Nat.le_of_ble_eq_true rfl⟩ (as := [.int 0, .int x1, .int x2]) (b := t) (st := []) (ob_e e_o8) (by decide) rfl rfl rfl rfl (Nat.le_of_ble_eq_true rfl) ⟨Nat.le_of_ble_eq_true rfl, Nat.le_of_ble_eq_true rfl⟩ (cn_K_fewestDays e_p7) ?_
      refine Sm_eq (st1 := .int p7.1 :: []) (nc1 := 0) (ns1 := 0) rfl rfl rfl ?_
      obtain rfl := Option.some.inj h
      exact Sm_reti K hQ (eok_i (eo ek_K_meets (i := 19) rfl) rfl)
    · rw [if_pos c6] at h
      exact Sm_le (leR_s (leR_n (leR_n leR_nil))) (s_K_meets_22 K hQ _ _ h)
def F_K_meets (t : Nat) (x1 : Int32) (x2 : Int32) (w : A_W) : Option (Int32 × A_W) := F_K_meets_0 t x1 x2 w
theorem cn_K_meets {G : Gx} {t : Nat} {x1 : Int32} {x2 : Int32} {w : A_W} {res : Int32 × A_W} (h : F_K_meets t x1 x2 w = some res) : Cn G y_K_meets c_K_meets 3 (some .int) rm_K_meets [.ref t, .int x1, .int x2] w (some (.int res.1)) res.2 :=
  Cn_of (own := 0) cy_K_meets rfl rfl (Nat.le_of_ble_eq_true rfl) rfl (fun X K _ hQ => Sm_le (leR_s (leR_s (leR_s leR_nil))) (s_K_meets_0 K hQ _ _ _ _ h))
/-! EveningCloak.threadbare(II)I -/
abbrev c_K_threadbare : ByteArray := prog_1_method_18_code
def y_K_threadbare : MethodName := ⟨"EveningCloak", "threadbare", "(II)I"⟩
def rm_K_threadbare : Room := { frames := 6, cells := 0, slots := 0, locals := 137 }
theorem cy_K_threadbare : Cy y_K_threadbare c_K_threadbare 3 (some .int) 2 := ⟨lgm 447 (by decide +kernel) rfl, lgm 68 (by decide +kernel) rfl, by decide +kernel, by decide +kernel⟩
theorem im_K_threadbare : Cond.instanceMethod y_K_threadbare ∈ lg := lgm 445 (by decide +kernel) rfl
theorem se_K_threadbare : Cond.selects y_K_threadbare.cls y_K_threadbare y_K_threadbare ∈ lg := lgm 446 (by decide +kernel) rfl
def e_K_threadbare : List Ent := [
  (0, .aload_n 0, 1, 1, .null, 0, 0, 0),
  (1, .getfield 12, 3, 4, .null, 0, 0, 217),
  (4, .iload_n 1, 1, 5, .null, 0, 0, 0),
  (5, .invokevirtual 75, 3, 8, .null, 0, 0, 0),
  (8, .ifCond .eq 13, 3, 21, .null, 0, 0, 0),
  (11, .iload_n 2, 1, 12, .null, 0, 0, 0),
  (12, .iconst 0, 1, 13, .int 0, 0, 0, 0),
  (13, .bipush 99, 2, 15, .int 99, 0, 0, 0),
  (15, .invokestatic 40, 3, 18, .null, 0, 0, 0),
  (18, .ifCond .ne 9, 3, 27, .null, 0, 0, 0),
  (21, .aload_n 0, 1, 22, .null, 0, 0, 0),
  (22, .iconst 0, 1, 23, .int 0, 0, 0, 0),
  (23, .invokevirtual 48, 3, 26, .null, 0, 0, 0),
  (26, .ireturn, 1, 27, .null, 0, 0, 0),
  (27, .aload_n 0, 1, 28, .null, 0, 0, 0),
  (28, .iconst 1, 1, 29, .int 1, 0, 0, 0),
  (29, .iload_n 1, 1, 30, .null, 0, 0, 0),
  (30, .iload_n 2, 1, 31, .null, 0, 0, 0),
  (31, .invokevirtual 142, 3, 34, .null, 0, 0, 0),
  (34, .ireturn, 1, 35, .null, 0, 0, 0)]
set_option maxRecDepth 100000 in
theorem ek_K_threadbare : e_K_threadbare.all (eok 0 c_K_threadbare) = true := by decide +kernel
def F_K_threadbare_21 (t : Nat) (w : A_W) : Option (Int32 × A_W) :=
  (ob w t 0).bind fun o2 =>
  (F_K_finding t 0 w).bind fun p1 =>
  some (p1.1, p1.2)
def F_K_threadbare_0 (t : Nat) (x1 : Int32) (x2 : Int32) (w : A_W) : Option (Int32 × A_W) :=
  (gr w t 0 0).bind fun a1 =>
  (ob w a1 2).bind fun o3 =>
  (F_R_hasDeposit a1 x1 w).bind fun p2 =>
  if p2.1 = 0 then
    F_K_threadbare_21 t p2.2
  else
    (F_K_within x2 0 99 p2.2).bind fun p5 =>
    if p5.1 = 0 then
      F_K_threadbare_21 t p5.2
    else
      (ob p5.2 t 0).bind fun o8 =>
      (F_K_fewestDays t 1 x1 x2 p5.2).bind fun p7 =>
      some (p7.1, p7.2)
set_option maxHeartbeats 4000000 in
set_option maxRecDepth 100000 in
theorem s_K_threadbare_21 {G : Gx} {X : Cx} {res : Int32 × A_W} (K : Ok G X 0 c_K_threadbare 3 (some .int) rm_K_threadbare) (hQ : QQ G X (some (.int res.1)) res.2 0 0) (t : Nat) (w : A_W) (h : F_K_threadbare_21 t w = some res) : Sm G X w 0 0 [some (.ref t), none, none] [] 21 := by
  unfold F_K_threadbare_21 at h
  refine Sm_run K ek_K_threadbare 10 2 rfl ?_
  obtain ⟨o2, e_o2, h⟩ := Option.bind_eq_some_iff.mp h
  obtain ⟨p1, e_p1, h⟩ := Option.bind_eq_some_iff.mp h
  refine Sm_callV K (eok_i (eo ek_K_threadbare (i := 12) rfl) rfl) cy_K_finding im_K_finding se_K_finding (lgm 249 (by decide +kernel) rfl) ⟨Nat.le_of_ble_eq_true rfl, Nat.le_of_ble_eq_true rfl⟩ (as := [.int 0]) (b := t) (st := []) (ob_e e_o2) (by decide) rfl rfl rfl rfl (Nat.le_of_ble_eq_true rfl) ⟨Nat.le_of_ble_eq_true rfl, Nat.le_of_ble_eq_true rfl⟩ (cn_K_finding e_p1) ?_
  refine Sm_eq (st1 := .int p1.1 :: []) (nc1 := 0) (ns1 := 0) rfl rfl rfl ?_
  obtain rfl := Option.some.inj h
  exact Sm_reti K hQ (eok_i (eo ek_K_threadbare (i := 13) rfl) rfl)
set_option maxHeartbeats 4000000 in
set_option maxRecDepth 100000 in
theorem s_K_threadbare_0 {G : Gx} {X : Cx} {res : Int32 × A_W} (K : Ok G X 0 c_K_threadbare 3 (some .int) rm_K_threadbare) (hQ : QQ G X (some (.int res.1)) res.2 0 0) (t : Nat) (x1 : Int32) (x2 : Int32) (w : A_W) (h : F_K_threadbare_0 t x1 x2 w = some res) : Sm G X w 0 0 [some (.ref t), some (.int x1), some (.int x2)] [] 0 := by
  unfold F_K_threadbare_0 at h
  refine Sm_run K ek_K_threadbare 0 1 rfl ?_
  obtain ⟨a1, e_a1, h⟩ := Option.bind_eq_some_iff.mp h
  refine Sm_gr K (eo ek_K_threadbare (i := 1) rfl) e_a1 ?_
  refine Sm_run K ek_K_threadbare 2 1 rfl ?_
  obtain ⟨o3, e_o3, h⟩ := Option.bind_eq_some_iff.mp h
  obtain ⟨p2, e_p2, h⟩ := Option.bind_eq_some_iff.mp h
  refine Sm_callV K (eok_i (eo ek_K_threadbare (i := 3) rfl) rfl) cy_R_hasDeposit im_R_hasDeposit se_R_hasDeposit (lgm 284 (by decide +kernel) rfl) ⟨Nat.le_of_ble_eq_true rfl, Nat.le_of_ble_eq_true rfl⟩ (as := [.int x1]) (b := a1) (st := []) (ob_e e_o3) (by decide) rfl rfl rfl rfl (Nat.le_of_ble_eq_true rfl) ⟨Nat.le_of_ble_eq_true rfl, Nat.le_of_ble_eq_true rfl⟩ (cn_R_hasDeposit e_p2) ?_
  refine Sm_eq (st1 := .int p2.1 :: []) (nc1 := 0) (ns1 := 0) rfl rfl rfl ?_
  refine Sm_if_eq K (eo ek_K_threadbare (i := 4) rfl) (fun c4 => ?_) (fun c4 => ?_)
  · rw [if_pos c4] at h
    exact Sm_le (leR_s (leR_n (leR_n leR_nil))) (s_K_threadbare_21 K hQ _ _ h)
  · rw [if_neg c4] at h
    refine Sm_run K ek_K_threadbare 5 3 rfl ?_
    obtain ⟨p5, e_p5, h⟩ := Option.bind_eq_some_iff.mp h
    refine Sm_callS K (eok_i (eo ek_K_threadbare (i := 8) rfl) rfl) cy_K_within st_K_within (lgm 243 (by decide +kernel) rfl) ⟨Nat.le_of_ble_eq_true rfl, Nat.le_of_ble_eq_true rfl⟩ (as := [.int x2, .int 0, .int 99]) (st := []) rfl rfl rfl (Nat.le_of_ble_eq_true rfl) ⟨Nat.le_of_ble_eq_true rfl, Nat.le_of_ble_eq_true rfl⟩ (cn_K_within e_p5) ?_
    refine Sm_eq (st1 := .int p5.1 :: []) (nc1 := 0) (ns1 := 0) rfl rfl rfl ?_
    refine Sm_if_ne K (eo ek_K_threadbare (i := 9) rfl) (fun c6 => ?_) (fun c6 => ?_)
    · rw [if_neg c6] at h
      refine Sm_run K ek_K_threadbare 14 4 rfl ?_
      obtain ⟨o8, e_o8, h⟩ := Option.bind_eq_some_iff.mp h
      obtain ⟨p7, e_p7, h⟩ := Option.bind_eq_some_iff.mp h
      refine Sm_callV K (eok_i (eo ek_K_threadbare (i := 18) rfl) rfl) cy_K_fewestDays im_K_fewestDays se_K_fewestDays (lgm 436 (by decide +kernel) rfl) ⟨Nat.le_of_ble_eq_true rfl, Nat.le_of_ble_eq_true rfl⟩ (as := [.int 1, .int x1, .int x2]) (b := t) (st := []) (ob_e e_o8) (by decide) rfl rfl rfl rfl (Nat.le_of_ble_eq_true rfl) ⟨Nat.le_of_ble_eq_true rfl, Nat.le_of_ble_eq_true rfl⟩ (cn_K_fewestDays e_p7) ?_
      refine Sm_eq (st1 := .int p7.1 :: []) (nc1 := 0) (ns1 := 0) rfl rfl rfl ?_
      obtain rfl := Option.some.inj h
      exact Sm_reti K hQ (eok_i (eo ek_K_threadbare (i := 19) rfl) rfl)
    · rw [if_pos c6] at h
      exact Sm_le (leR_s (leR_n (leR_n leR_nil))) (s_K_threadbare_21 K hQ _ _ h)
def F_K_threadbare (t : Nat) (x1 : Int32) (x2 : Int32) (w : A_W) : Option (Int32 × A_W) := F_K_threadbare_0 t x1 x2 w
theorem cn_K_threadbare {G : Gx} {t : Nat} {x1 : Int32} {x2 : Int32} {w : A_W} {res : Int32 × A_W} (h : F_K_threadbare t x1 x2 w = some res) : Cn G y_K_threadbare c_K_threadbare 3 (some .int) rm_K_threadbare [.ref t, .int x1, .int x2] w (some (.int res.1)) res.2 :=
  Cn_of (own := 0) cy_K_threadbare rfl rfl (Nat.le_of_ble_eq_true rfl) rfl (fun X K _ hQ => Sm_le (leR_s (leR_s (leR_s leR_nil))) (s_K_threadbare_0 K hQ _ _ _ _ h))
/-! EveningCloak.earns(I)I -/
abbrev c_K_earns : ByteArray := prog_1_method_19_code
def y_K_earns : MethodName := ⟨"EveningCloak", "earns", "(I)I"⟩
def rm_K_earns : Room := { frames := 6, cells := 0, slots := 0, locals := 137 }
theorem cy_K_earns : Cy y_K_earns c_K_earns 2 (some .int) 1 := ⟨lgm 451 (by decide +kernel) rfl, lgm 68 (by decide +kernel) rfl, by decide +kernel, by decide +kernel⟩
theorem im_K_earns : Cond.instanceMethod y_K_earns ∈ lg := lgm 449 (by decide +kernel) rfl
theorem se_K_earns : Cond.selects y_K_earns.cls y_K_earns y_K_earns ∈ lg := lgm 450 (by decide +kernel) rfl
def e_K_earns : List Ent := [
  (0, .iload_n 1, 1, 1, .null, 0, 0, 0),
  (1, .iconst 0, 1, 2, .int 0, 0, 0, 0),
  (2, .ldc 112, 2, 4, .int 99999, 0, 0, 366),
  (4, .invokestatic 40, 3, 7, .null, 0, 0, 0),
  (7, .ifCond .eq 13, 3, 20, .null, 0, 0, 0),
  (10, .aload_n 0, 1, 11, .null, 0, 0, 0),
  (11, .iconst 2, 1, 12, .int 2, 0, 0, 0),
  (12, .iconst 0, 1, 13, .int 0, 0, 0, 0),
  (13, .iload_n 1, 1, 14, .null, 0, 0, 0),
  (14, .invokevirtual 142, 3, 17, .null, 0, 0, 0),
  (17, .goto 8, 3, 25, .null, 0, 0, 0),
  (20, .aload_n 0, 1, 21, .null, 0, 0, 0),
  (21, .iconst 0, 1, 22, .int 0, 0, 0, 0),
  (22, .invokevirtual 48, 3, 25, .null, 0, 0, 0),
  (25, .ireturn, 1, 26, .null, 0, 0, 0)]
set_option maxRecDepth 100000 in
theorem ek_K_earns : e_K_earns.all (eok 0 c_K_earns) = true := by decide +kernel
def F_K_earns_25 (y0 : Int32) (w : A_W) : Option (Int32 × A_W) :=
  some (y0, w)
def F_K_earns_0 (t : Nat) (x1 : Int32) (w : A_W) : Option (Int32 × A_W) :=
  (F_K_within x1 0 99999 w).bind fun p1 =>
  if p1.1 = 0 then
    (ob p1.2 t 0).bind fun o4 =>
    (F_K_finding t 0 p1.2).bind fun p3 =>
    F_K_earns_25 p3.1 p3.2
  else
    (ob p1.2 t 0).bind fun o6 =>
    (F_K_fewestDays t 2 0 x1 p1.2).bind fun p5 =>
    F_K_earns_25 p5.1 p5.2
set_option maxHeartbeats 4000000 in
set_option maxRecDepth 100000 in
theorem s_K_earns_25 {G : Gx} {X : Cx} {res : Int32 × A_W} (K : Ok G X 0 c_K_earns 2 (some .int) rm_K_earns) (hQ : QQ G X (some (.int res.1)) res.2 0 0) (y0 : Int32) (w : A_W) (h : F_K_earns_25 y0 w = some res) : Sm G X w 0 0 [none, none] [.int y0] 25 := by
  unfold F_K_earns_25 at h
  obtain rfl := Option.some.inj h
  exact Sm_reti K hQ (eok_i (eo ek_K_earns (i := 14) rfl) rfl)
set_option maxHeartbeats 4000000 in
set_option maxRecDepth 100000 in
theorem s_K_earns_0 {G : Gx} {X : Cx} {res : Int32 × A_W} (K : Ok G X 0 c_K_earns 2 (some .int) rm_K_earns) (hQ : QQ G X (some (.int res.1)) res.2 0 0) (t : Nat) (x1 : Int32) (w : A_W) (h : F_K_earns_0 t x1 w = some res) : Sm G X w 0 0 [some (.ref t), some (.int x1)] [] 0 := by
  unfold F_K_earns_0 at h
  refine Sm_run K ek_K_earns 0 3 rfl ?_
  obtain ⟨p1, e_p1, h⟩ := Option.bind_eq_some_iff.mp h
  refine Sm_callS K (eok_i (eo ek_K_earns (i := 3) rfl) rfl) cy_K_within st_K_within (lgm 243 (by decide +kernel) rfl) ⟨Nat.le_of_ble_eq_true rfl, Nat.le_of_ble_eq_true rfl⟩ (as := [.int x1, .int 0, .int 99999]) (st := []) rfl rfl rfl (Nat.le_of_ble_eq_true rfl) ⟨Nat.le_of_ble_eq_true rfl, Nat.le_of_ble_eq_true rfl⟩ (cn_K_within e_p1) ?_
  refine Sm_eq (st1 := .int p1.1 :: []) (nc1 := 0) (ns1 := 0) rfl rfl rfl ?_
  refine Sm_if_eq K (eo ek_K_earns (i := 4) rfl) (fun c2 => ?_) (fun c2 => ?_)
  · rw [if_pos c2] at h
    refine Sm_run K ek_K_earns 11 2 rfl ?_
    obtain ⟨o4, e_o4, h⟩ := Option.bind_eq_some_iff.mp h
    obtain ⟨p3, e_p3, h⟩ := Option.bind_eq_some_iff.mp h
    refine Sm_callV K (eok_i (eo ek_K_earns (i := 13) rfl) rfl) cy_K_finding im_K_finding se_K_finding (lgm 249 (by decide +kernel) rfl) ⟨Nat.le_of_ble_eq_true rfl, Nat.le_of_ble_eq_true rfl⟩ (as := [.int 0]) (b := t) (st := []) (ob_e e_o4) (by decide) rfl rfl rfl rfl (Nat.le_of_ble_eq_true rfl) ⟨Nat.le_of_ble_eq_true rfl, Nat.le_of_ble_eq_true rfl⟩ (cn_K_finding e_p3) ?_
    refine Sm_eq (st1 := .int p3.1 :: []) (nc1 := 0) (ns1 := 0) rfl rfl rfl ?_
    exact Sm_le (leR_n (leR_n leR_nil)) (s_K_earns_25 K hQ _ _ h)
  · rw [if_neg c2] at h
    refine Sm_run K ek_K_earns 5 4 rfl ?_
    obtain ⟨o6, e_o6, h⟩ := Option.bind_eq_some_iff.mp h
    obtain ⟨p5, e_p5, h⟩ := Option.bind_eq_some_iff.mp h
    refine Sm_callV K (eok_i (eo ek_K_earns (i := 9) rfl) rfl) cy_K_fewestDays im_K_fewestDays se_K_fewestDays (lgm 436 (by decide +kernel) rfl) ⟨Nat.le_of_ble_eq_true rfl, Nat.le_of_ble_eq_true rfl⟩ (as := [.int 2, .int 0, .int x1]) (b := t) (st := []) (ob_e e_o6) (by decide) rfl rfl rfl rfl (Nat.le_of_ble_eq_true rfl) ⟨Nat.le_of_ble_eq_true rfl, Nat.le_of_ble_eq_true rfl⟩ (cn_K_fewestDays e_p5) ?_
    refine Sm_eq (st1 := .int p5.1 :: []) (nc1 := 0) (ns1 := 0) rfl rfl rfl ?_
    refine Sm_run K ek_K_earns 10 1 rfl ?_
    exact Sm_le (leR_n (leR_n leR_nil)) (s_K_earns_25 K hQ _ _ h)
def F_K_earns (t : Nat) (x1 : Int32) (w : A_W) : Option (Int32 × A_W) := F_K_earns_0 t x1 w
theorem cn_K_earns {G : Gx} {t : Nat} {x1 : Int32} {w : A_W} {res : Int32 × A_W} (h : F_K_earns t x1 w = some res) : Cn G y_K_earns c_K_earns 2 (some .int) rm_K_earns [.ref t, .int x1] w (some (.int res.1)) res.2 :=
  Cn_of (own := 0) cy_K_earns rfl rfl (Nat.le_of_ble_eq_true rfl) rfl (fun X K _ hQ => Sm_le (leR_s (leR_s leR_nil)) (s_K_earns_0 K hQ _ _ _ h))
