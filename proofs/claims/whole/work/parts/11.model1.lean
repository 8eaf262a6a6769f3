/-! EveningCloakModel.finds(I)I -/
abbrev c_M_finds : ByteArray := prog_6_method_2_code
def y_M_finds : MethodName := ⟨"EveningCloakModel", "finds", "(I)I"⟩
def rm_M_finds : Room := { frames := 0, cells := 0, slots := 0, locals := 0 }
theorem cy_M_finds : Cy y_M_finds c_M_finds 2 (some .int) 1 := ⟨lgm 829 (by decide +kernel) rfl, lgm 73 (by decide +kernel) rfl, by decide +kernel, by decide +kernel⟩
theorem im_M_finds : Cond.instanceMethod y_M_finds ∈ lg := lgm 828 (by decide +kernel) rfl
theorem se_M_finds : Cond.selects y_M_finds.cls y_M_finds y_M_finds ∈ lg := lgm 19 (by decide +kernel) rfl
def e_M_finds : List Ent := [
  (0, .aload_n 0, 1, 1, .null, 0, 0, 0),
  (1, .getfield 19, 3, 4, .null, 4, 4, 766),
  (4, .ldc 34, 2, 6, .int (-1000001), 0, 0, 825),
  (6, .iload_n 1, 1, 7, .null, 0, 0, 0),
  (7, .isub, 1, 8, .null, 0, 0, 0),
  (8, .dup2, 1, 9, .null, 0, 0, 0),
  (9, .iaload, 1, 10, .null, 0, 0, 0),
  (10, .iconst 1, 1, 11, .int 1, 0, 0, 0),
  (11, .iadd, 1, 12, .null, 0, 0, 0),
  (12, .iastore, 1, 13, .null, 0, 0, 0),
  (13, .iload_n 1, 1, 14, .null, 0, 0, 0),
  (14, .ireturn, 1, 15, .null, 0, 0, 0)]
set_option maxRecDepth 100000 in
theorem ek_M_finds : e_M_finds.all (eok 4 c_M_finds) = true := by decide +kernel
def F_M_finds_0 (t : Nat) (x1 : Int32) (w : A_W) : Option (Int32 × A_W) :=
  (gr w t 4 4).bind fun a1 =>
  (rd w a1 ((-1000001) - x1)).bind fun v2 =>
  (wr w a1 ((-1000001) - x1) (v2 + 1)).bind fun w3 =>
  some (x1, w3)
set_option maxHeartbeats 4000000 in
set_option maxRecDepth 100000 in
theorem s_M_finds_0 {G : Gx} {X : Cx} {res : Int32 × A_W} (K : Ok G X 4 c_M_finds 2 (some .int) rm_M_finds) (hQ : QQ G X (some (.int res.1)) res.2 0 0) (t : Nat) (x1 : Int32) (w : A_W) (h : F_M_finds_0 t x1 w = some res) : Sm G X w 0 0 [some (.ref t), some (.int x1)] [] 0 := by
  unfold F_M_finds_0 at h
  refine Sm_run K ek_M_finds 0 1 rfl ?_
  obtain ⟨a1, e_a1, h⟩ := Option.bind_eq_some_iff.mp h
  refine Sm_gr K (eo ek_M_finds (i := 1) rfl) e_a1 ?_
  refine Sm_run K ek_M_finds 2 4 rfl ?_
  obtain ⟨v2, e_v2, h⟩ := Option.bind_eq_some_iff.mp h
  refine Sm_rd K (eok_i (eo ek_M_finds (i := 6) rfl) rfl) e_v2 ?_
  refine Sm_run K ek_M_finds 7 2 rfl ?_
  obtain ⟨w3, e_w3, h⟩ := Option.bind_eq_some_iff.mp h
  refine Sm_wr K (eok_i (eo ek_M_finds (i := 9) rfl) rfl) e_w3 ?_
  refine Sm_run K ek_M_finds 10 1 rfl ?_
  obtain rfl := Option.some.inj h
  exact Sm_reti K hQ (eok_i (eo ek_M_finds (i := 11) rfl) rfl)
def F_M_finds (t : Nat) (x1 : Int32) (w : A_W) : Option (Int32 × A_W) := F_M_finds_0 t x1 w
theorem cn_M_finds {G : Gx} {t : Nat} {x1 : Int32} {w : A_W} {res : Int32 × A_W} (h : F_M_finds t x1 w = some res) : Cn G y_M_finds c_M_finds 2 (some .int) rm_M_finds [.ref t, .int x1] w (some (.int res.1)) res.2 :=
  Cn_of (own := 4) cy_M_finds rfl rfl (Nat.le_of_ble_eq_true rfl) rfl (fun X K _ hQ => Sm_le (leR_s (leR_s leR_nil)) (s_M_finds_0 K hQ _ _ _ h))
/-! EveningCloakModel.orNone(I)I -/
abbrev c_M_orNone : ByteArray := prog_6_method_3_code
def y_M_orNone : MethodName := ⟨"EveningCloakModel", "orNone", "(I)I"⟩
def rm_M_orNone : Room := { frames := 1, cells := 0, slots := 0, locals := 21 }
theorem cy_M_orNone : Cy y_M_orNone c_M_orNone 2 (some .int) 1 := ⟨lgm 932 (by decide +kernel) rfl, lgm 73 (by decide +kernel) rfl, by decide +kernel, by decide +kernel⟩
theorem im_M_orNone : Cond.instanceMethod y_M_orNone ∈ lg := lgm 931 (by decide +kernel) rfl
theorem se_M_orNone : Cond.selects y_M_orNone.cls y_M_orNone y_M_orNone ∈ lg := lgm 34 (by decide +kernel) rfl
def e_M_orNone : List Ent := [
  (0, .iload_n 1, 1, 1, .null, 0, 0, 0),
  (1, .ifCond .ge 12, 3, 13, .null, 0, 0, 0),
  (4, .aload_n 0, 1, 5, .null, 0, 0, 0),
  (5, .ldc 35, 2, 7, .int (-1000004), 0, 0, 933),
  (7, .invokevirtual 36, 3, 10, .null, 0, 0, 0),
  (10, .goto 4, 3, 14, .null, 0, 0, 0),
  (13, .iload_n 1, 1, 14, .null, 0, 0, 0),
  (14, .ireturn, 1, 15, .null, 0, 0, 0)]
set_option maxRecDepth 100000 in
theorem ek_M_orNone : e_M_orNone.all (eok 4 c_M_orNone) = true := by decide +kernel
def F_M_orNone_14 (y0 : Int32) (w : A_W) : Option (Int32 × A_W) :=
  some (y0, w)
def F_M_orNone_0 (t : Nat) (x1 : Int32) (w : A_W) : Option (Int32 × A_W) :=
  if 0 ≤ x1 then
    F_M_orNone_14 x1 w
  else
    (ob w t 4).bind fun o3 =>
    (F_M_finds t (-1000004) w).bind fun p2 =>
    F_M_orNone_14 p2.1 p2.2
set_option maxHeartbeats 4000000 in
set_option maxRecDepth 100000 in
theorem s_M_orNone_14 {G : Gx} {X : Cx} {res : Int32 × A_W} (K : Ok G X 4 c_M_orNone 2 (some .int) rm_M_orNone) (hQ : QQ G X (some (.int res.1)) res.2 0 0) (y0 : Int32) (w : A_W) (h : F_M_orNone_14 y0 w = some res) : Sm G X w 0 0 [none, none] [.int y0] 14 := by
  unfold F_M_orNone_14 at h
  obtain rfl := Option.some.inj h
  exact Sm_reti K hQ (eok_i (eo ek_M_orNone (i := 7) rfl) rfl)
set_option maxHeartbeats 4000000 in
set_option maxRecDepth 100000 in
theorem s_M_orNone_0 {G : Gx} {X : Cx} {res : Int32 × A_W} (K : Ok G X 4 c_M_orNone 2 (some .int) rm_M_orNone) (hQ : QQ G X (some (.int res.1)) res.2 0 0) (t : Nat) (x1 : Int32) (w : A_W) (h : F_M_orNone_0 t x1 w = some res) : Sm G X w 0 0 [some (.ref t), some (.int x1)] [] 0 := by
  unfold F_M_orNone_0 at h
  refine Sm_run K ek_M_orNone 0 1 rfl ?_
  refine Sm_if_ge K (eo ek_M_orNone (i := 1) rfl) (fun c1 => ?_) (fun c1 => ?_)
  · rw [if_pos c1] at h
    refine Sm_run K ek_M_orNone 6 1 rfl ?_
    exact Sm_le (leR_n (leR_n leR_nil)) (s_M_orNone_14 K hQ _ _ h)
  · rw [if_neg c1] at h
    refine Sm_run K ek_M_orNone 2 2 rfl ?_
    obtain ⟨o3, e_o3, h⟩ := Option.bind_eq_some_iff.mp h
    obtain ⟨p2, e_p2, h⟩ := Option.bind_eq_some_iff.mp h
    refine Sm_callV K (eok_i (eo ek_M_orNone (i := 4) rfl) rfl) cy_M_finds im_M_finds se_M_finds (lgm 826 (by decide +kernel) rfl) ⟨Nat.le_of_ble_eq_true rfl, Nat.le_of_ble_eq_true rfl⟩ (as := [.int (-1000004)]) (b := t) (st := []) (ob_e e_o3) (by decide) rfl rfl rfl rfl (Nat.le_of_ble_eq_true rfl) ⟨Nat.le_of_ble_eq_true rfl, Nat.le_of_ble_eq_true rfl⟩ (cn_M_finds e_p2) ?_
    refine Sm_eq (st1 := .int p2.1 :: []) (nc1 := 0) (ns1 := 0) rfl rfl rfl ?_
    refine Sm_run K ek_M_orNone 5 1 rfl ?_
    exact Sm_le (leR_n (leR_n leR_nil)) (s_M_orNone_14 K hQ _ _ h)
def F_M_orNone (t : Nat) (x1 : Int32) (w : A_W) : Option (Int32 × A_W) := F_M_orNone_0 t x1 w
theorem cn_M_orNone {G : Gx} {t : Nat} {x1 : Int32} {w : A_W} {res : Int32 × A_W} (h : F_M_orNone t x1 w = some res) : Cn G y_M_orNone c_M_orNone 2 (some .int) rm_M_orNone [.ref t, .int x1] w (some (.int res.1)) res.2 :=
  Cn_of (own := 4) cy_M_orNone rfl rfl (Nat.le_of_ble_eq_true rfl) rfl (fun X K _ hQ => Sm_le (leR_s (leR_s leR_nil)) (s_M_orNone_0 K hQ _ _ _ h))
/-! EveningCloakModel.in(III)Z -/
abbrev c_M_in : ByteArray := prog_6_method_4_code
def y_M_in : MethodName := ⟨"EveningCloakModel", "in", "(III)Z"⟩
def rm_M_in : Room := { frames := 0, cells := 0, slots := 0, locals := 0 }
theorem cy_M_in : Cy y_M_in c_M_in 3 (some .boolean) 3 := ⟨lgm 817 (by decide +kernel) rfl, lgm 73 (by decide +kernel) rfl, by decide +kernel, by decide +kernel⟩
theorem st_M_in : Cond.static y_M_in ∈ lg := lgm 816 (by decide +kernel) rfl
def e_M_in : List Ent := [
  (0, .iload_n 0, 1, 1, .null, 0, 0, 0),
  (1, .iload_n 1, 1, 2, .null, 0, 0, 0),
  (2, .if_icmp .lt 12, 3, 14, .null, 0, 0, 0),
  (5, .iload_n 0, 1, 6, .null, 0, 0, 0),
  (6, .iload_n 2, 1, 7, .null, 0, 0, 0),
  (7, .if_icmp .gt 7, 3, 14, .null, 0, 0, 0),
  (10, .iconst 1, 1, 11, .int 1, 0, 0, 0),
  (11, .goto 4, 3, 15, .null, 0, 0, 0),
  (14, .iconst 0, 1, 15, .int 0, 0, 0, 0),
  (15, .ireturn, 1, 16, .null, 0, 0, 0)]
set_option maxRecDepth 100000 in
theorem ek_M_in : e_M_in.all (eok 4 c_M_in) = true := by decide +kernel
def F_M_in_15 (y0 : Int32) (w : A_W) : Option (Int32 × A_W) :=
  (bz y0).bind fun b1 =>
  some (b1, w)
def F_M_in_14 (w : A_W) : Option (Int32 × A_W) :=
  F_M_in_15 0 w
def F_M_in_0 (x0 : Int32) (x1 : Int32) (x2 : Int32) (w : A_W) : Option (Int32 × A_W) :=
  if x0 < x1 then
    F_M_in_14 w
  else
    if x2 < x0 then
      F_M_in_14 w
    else
      F_M_in_15 1 w
set_option maxHeartbeats 4000000 in
set_option maxRecDepth 100000 in
theorem s_M_in_15 {G : Gx} {X : Cx} {res : Int32 × A_W} (K : Ok G X 4 c_M_in 3 (some .boolean) rm_M_in) (hQ : QQ G X (some (.int res.1)) res.2 0 0) (y0 : Int32) (w : A_W) (h : F_M_in_15 y0 w = some res) : Sm G X w 0 0 [none, none, none] [.int y0] 15 := by
  unfold F_M_in_15 at h
  obtain ⟨b1, e_b1, h⟩ := Option.bind_eq_some_iff.mp h
  obtain rfl := Option.some.inj h
  exact Sm_retz K e_b1 hQ (eok_i (eo ek_M_in (i := 9) rfl) rfl)
set_option maxHeartbeats 4000000 in
set_option maxRecDepth 100000 in
theorem s_M_in_14 {G : Gx} {X : Cx} {res : Int32 × A_W} (K : Ok G X 4 c_M_in 3 (some .boolean) rm_M_in) (hQ : QQ G X (some (.int res.1)) res.2 0 0) (w : A_W) (h : F_M_in_14 w = some res) : Sm G X w 0 0 [none, none, none] [] 14 := by
  unfold F_M_in_14 at h
  refine Sm_run K ek_M_in 8 1 rfl ?_
  exact Sm_le (leR_n (leR_n (leR_n leR_nil))) (s_M_in_15 K hQ _ _ h)
set_option maxHeartbeats 4000000 in
set_option maxRecDepth 100000 in
theorem s_M_in_0 {G : Gx} {X : Cx} {res : Int32 × A_W} (K : Ok G X 4 c_M_in 3 (some .boolean) rm_M_in) (hQ : QQ G X (some (.int res.1)) res.2 0 0) (x0 : Int32) (x1 : Int32) (x2 : Int32) (w : A_W) (h : F_M_in_0 x0 x1 x2 w = some res) : Sm G X w 0 0 [some (.int x0), some (.int x1), some (.int x2)] [] 0 := by
  unfold F_M_in_0 at h
  refine Sm_run K ek_M_in 0 2 rfl ?_
  refine Sm_ic_lt K (eo ek_M_in (i := 2) rfl) (fun c1 => ?_) (fun c1 => ?_)
  · rw [if_pos c1] at h
    exact Sm_le (leR_n (leR_n (leR_n leR_nil))) (s_M_in_14 K hQ _ h)
  · rw [if_neg c1] at h
    refine Sm_run K ek_M_in 3 2 rfl ?_
    refine Sm_ic_gt K (eo ek_M_in (i := 5) rfl) (fun c2 => ?_) (fun c2 => ?_)
    · rw [if_pos c2] at h
      exact Sm_le (leR_n (leR_n (leR_n leR_nil))) (s_M_in_14 K hQ _ h)
    · rw [if_neg c2] at h
      refine Sm_run K ek_M_in 6 2 rfl ?_
      exact Sm_le (leR_n (leR_n (leR_n leR_nil))) (s_M_in_15 K hQ _ _ h)
def F_M_in (x0 : Int32) (x1 : Int32) (x2 : Int32) (w : A_W) : Option (Int32 × A_W) := F_M_in_0 x0 x1 x2 w
theorem cn_M_in {G : Gx} {x0 : Int32} {x1 : Int32} {x2 : Int32} {w : A_W} {res : Int32 × A_W} (h : F_M_in x0 x1 x2 w = some res) : Cn G y_M_in c_M_in 3 (some .boolean) rm_M_in [.int x0, .int x1, .int x2] w (some (.int res.1)) res.2 :=
  Cn_of (own := 4) cy_M_in rfl rfl (Nat.le_of_ble_eq_true rfl) rfl (fun X K _ hQ => Sm_le (leR_s (leR_s (leR_s leR_nil))) (s_M_in_0 K hQ _ _ _ _ h))
/-! EveningCloakModel.held(III)I -/
abbrev c_M_held : ByteArray := prog_6_method_5_code
def y_M_held : MethodName := ⟨"EveningCloakModel", "held", "(III)I"⟩
def rm_M_held : Room := { frames := 0, cells := 0, slots := 0, locals := 0 }
theorem cy_M_held : Cy y_M_held c_M_held 3 (some .int) 3 := ⟨lgm 877 (by decide +kernel) rfl, lgm 73 (by decide +kernel) rfl, by decide +kernel, by decide +kernel⟩
theorem st_M_held : Cond.static y_M_held ∈ lg := lgm 876 (by decide +kernel) rfl
def e_M_held : List Ent := [
  (0, .iload_n 0, 1, 1, .null, 0, 0, 0),
  (1, .iload_n 1, 1, 2, .null, 0, 0, 0),
  (2, .if_icmp .ge 7, 3, 9, .null, 0, 0, 0),
  (5, .iload_n 1, 1, 6, .null, 0, 0, 0),
  (6, .goto 13, 3, 19, .null, 0, 0, 0),
  (9, .iload_n 0, 1, 10, .null, 0, 0, 0),
  (10, .iload_n 2, 1, 11, .null, 0, 0, 0),
  (11, .if_icmp .le 7, 3, 18, .null, 0, 0, 0),
  (14, .iload_n 2, 1, 15, .null, 0, 0, 0),
  (15, .goto 4, 3, 19, .null, 0, 0, 0),
  (18, .iload_n 0, 1, 19, .null, 0, 0, 0),
  (19, .ireturn, 1, 20, .null, 0, 0, 0)]
set_option maxRecDepth 100000 in
theorem ek_M_held : e_M_held.all (eok 4 c_M_held) = true := by decide +kernel
def F_M_held_19 (y0 : Int32) (w : A_W) : Option (Int32 × A_W) :=
  some (y0, w)
def F_M_held_0 (x0 : Int32) (x1 : Int32) (x2 : Int32) (w : A_W) : Option (Int32 × A_W) :=
  if x1 ≤ x0 then
    if x0 ≤ x2 then
      F_M_held_19 x0 w
    else
      F_M_held_19 x2 w
  else
    F_M_held_19 x1 w
set_option maxHeartbeats 4000000 in
set_option maxRecDepth 100000 in
theorem s_M_held_19 {G : Gx} {X : Cx} {res : Int32 × A_W} (K : Ok G X 4 c_M_held 3 (some .int) rm_M_held) (hQ : QQ G X (some (.int res.1)) res.2 0 0) (y0 : Int32) (w : A_W) (h : F_M_held_19 y0 w = some res) : Sm G X w 0 0 [none, none, none] [.int y0] 19 := by
  unfold F_M_held_19 at h
  obtain rfl := Option.some.inj h
  exact Sm_reti K hQ (eok_i (eo ek_M_held (i := 11) rfl) rfl)
set_option maxHeartbeats 4000000 in
set_option maxRecDepth 100000 in
theorem s_M_held_0 {G : Gx} {X : Cx} {res : Int32 × A_W} (K : Ok G X 4 c_M_held 3 (some .int) rm_M_held) (hQ : QQ G X (some (.int res.1)) res.2 0 0) (x0 : Int32) (x1 : Int32) (x2 : Int32) (w : A_W) (h : F_M_held_0 x0 x1 x2 w = some res) : Sm G X w 0 0 [some (.int x0), some (.int x1), some (.int x2)] [] 0 := by
  unfold F_M_held_0 at h
  refine Sm_run K ek_M_held 0 2 rfl ?_
  refine Sm_ic_ge K (eo ek_M_held (i := 2) rfl) (fun c1 => ?_) (fun c1 => ?_)
  · rw [if_pos c1] at h
    refine Sm_run K ek_M_held 5 2 rfl ?_
    refine Sm_ic_le K (eo ek_M_held (i := 7) rfl) (fun c2 => ?_) (fun c2 => ?_)
    · rw [if_pos c2] at h
      refine Sm_run K ek_M_held 10 1 rfl ?_
      exact Sm_le (leR_n (leR_n (leR_n leR_nil))) (s_M_held_19 K hQ _ _ h)
    · rw [if_neg c2] at h
      refine Sm_run K ek_M_held 8 2 rfl ?_
      exact Sm_le (leR_n (leR_n (leR_n leR_nil))) (s_M_held_19 K hQ _ _ h)
  · rw [if_neg c1] at h
    refine Sm_run K ek_M_held 3 2 rfl ?_
    exact Sm_le (leR_n (leR_n (leR_n leR_nil))) (s_M_held_19 K hQ _ _ h)
def F_M_held (x0 : Int32) (x1 : Int32) (x2 : Int32) (w : A_W) : Option (Int32 × A_W) := F_M_held_0 x0 x1 x2 w
theorem cn_M_held {G : Gx} {x0 : Int32} {x1 : Int32} {x2 : Int32} {w : A_W} {res : Int32 × A_W} (h : F_M_held x0 x1 x2 w = some res) : Cn G y_M_held c_M_held 3 (some .int) rm_M_held [.int x0, .int x1, .int x2] w (some (.int res.1)) res.2 :=
  Cn_of (own := 4) cy_M_held rfl rfl (Nat.le_of_ble_eq_true rfl) rfl (fun X K _ hQ => Sm_le (leR_s (leR_s (leR_s leR_nil))) (s_M_held_0 K hQ _ _ _ _ h))
/-! EveningCloakModel.copyAll([I[I)V -/
abbrev c_M_copyAll : ByteArray := prog_6_method_6_code
def y_M_copyAll : MethodName := ⟨"EveningCloakModel", "copyAll", "([I[I)V"⟩
def rm_M_copyAll : Room := { frames := 0, cells := 0, slots := 0, locals := 0 }
theorem cy_M_copyAll : Cy y_M_copyAll c_M_copyAll 3 (none) 2 := ⟨lgm 986 (by decide +kernel) rfl, lgm 73 (by decide +kernel) rfl, by decide +kernel, by decide +kernel⟩
theorem st_M_copyAll : Cond.static y_M_copyAll ∈ lg := lgm 985 (by decide +kernel) rfl
def e_M_copyAll : List Ent := [
  (0, .iconst 0, 1, 1, .int 0, 0, 0, 0),
  (1, .istore_n 2, 1, 2, .null, 0, 0, 0),
  (2, .iload_n 2, 1, 3, .null, 0, 0, 0),
  (3, .bipush 87, 2, 5, .int 87, 0, 0, 0),
  (5, .if_icmp .ge 15, 3, 20, .null, 0, 0, 0),
  (8, .aload_n 1, 1, 9, .null, 0, 0, 0),
  (9, .iload_n 2, 1, 10, .null, 0, 0, 0),
  (10, .aload_n 0, 1, 11, .null, 0, 0, 0),
  (11, .iload_n 2, 1, 12, .null, 0, 0, 0),
  (12, .iaload, 1, 13, .null, 0, 0, 0),
  (13, .iastore, 1, 14, .null, 0, 0, 0),
  (14, .iinc 2 1, 3, 17, .int 1, 0, 0, 0),
  (17, .goto (-15), 3, 2, .null, 0, 0, 0),
  (20, .return_, 1, 21, .null, 0, 0, 0)]
set_option maxRecDepth 100000 in
theorem ek_M_copyAll : e_M_copyAll.all (eok 4 c_M_copyAll) = true := by decide +kernel
def F_M_copyAll_2 : Nat → Nat → Nat → Int32 → A_W → Option (A_W)
  | 0, _, _, _, _ => none
  | n + 1, x0, x1, x2, w =>
    if 87 ≤ x2 then
      some w
    else
      (rd w x0 x2).bind fun v2 =>
      (wr w x1 x2 v2).bind fun w3 =>
      F_M_copyAll_2 n x0 x1 (x2 + 1) w3
def F_M_copyAll_0 (x0 : Nat) (x1 : Nat) (w : A_W) : Option (A_W) :=
  F_M_copyAll_2 FU x0 x1 0 w
set_option maxHeartbeats 4000000 in
set_option maxRecDepth 100000 in
theorem s_M_copyAll_2 {G : Gx} {X : Cx} {res : A_W} (K : Ok G X 4 c_M_copyAll 3 (none) rm_M_copyAll) (hQ : QQ G X none res 0 0) : ∀ (n : Nat) (x0 : Nat) (x1 : Nat) (x2 : Int32) (w : A_W), F_M_copyAll_2 n x0 x1 x2 w = some res → Sm G X w 0 0 [some (.ref x0), some (.ref x1), some (.int x2)] [] 2 := by
  intro n
  induction n with
  | zero => intro x0 x1 x2 w h; cases h
  | succ n ih =>
    intro x0 x1 x2 w h
    rw [F_M_copyAll_2] at h
    refine Sm_run K ek_M_copyAll 2 2 rfl ?_
    refine Sm_ic_ge K (eo ek_M_copyAll (i := 4) rfl) (fun c1 => ?_) (fun c1 => ?_)
    · rw [if_pos c1] at h
      obtain rfl := Option.some.inj h
      exact Sm_retv K hQ (eok_i (eo ek_M_copyAll (i := 13) rfl) rfl)
    · rw [if_neg c1] at h
      refine Sm_run K ek_M_copyAll 5 4 rfl ?_
      obtain ⟨v2, e_v2, h⟩ := Option.bind_eq_some_iff.mp h
      refine Sm_rd K (eok_i (eo ek_M_copyAll (i := 9) rfl) rfl) e_v2 ?_
      obtain ⟨w3, e_w3, h⟩ := Option.bind_eq_some_iff.mp h
      refine Sm_wr K (eok_i (eo ek_M_copyAll (i := 10) rfl) rfl) e_w3 ?_
      refine Sm_run K ek_M_copyAll 11 2 rfl ?_
      exact Sm_le (leR_s (leR_s (leR_s leR_nil))) (ih _ _ _ _ h)
set_option maxHeartbeats 4000000 in
set_option maxRecDepth 100000 in
theorem s_M_copyAll_0 {G : Gx} {X : Cx} {res : A_W} (K : Ok G X 4 c_M_copyAll 3 (none) rm_M_copyAll) (hQ : QQ G X none res 0 0) (x0 : Nat) (x1 : Nat) (w : A_W) (h : F_M_copyAll_0 x0 x1 w = some res) : Sm G X w 0 0 [some (.ref x0), some (.ref x1), none] [] 0 := by
  unfold F_M_copyAll_0 at h
  refine Sm_run K ek_M_copyAll 0 2 rfl ?_
  exact Sm_le (leR_s (leR_s (leR_s leR_nil))) (s_M_copyAll_2 K hQ FU _ _ _ _ h)
def F_M_copyAll (x0 : Nat) (x1 : Nat) (w : A_W) : Option (A_W) := F_M_copyAll_0 x0 x1 w
theorem cn_M_copyAll {G : Gx} {x0 : Nat} {x1 : Nat} {w : A_W} {res : A_W} (h : F_M_copyAll x0 x1 w = some res) : Cn G y_M_copyAll c_M_copyAll 3 (none) rm_M_copyAll [.ref x0, .ref x1] w none res :=
  Cn_of (own := 4) cy_M_copyAll rfl rfl (Nat.le_of_ble_eq_true rfl) rfl (fun X K _ hQ => Sm_le (leR_s (leR_s (leR_n leR_nil))) (s_M_copyAll_0 K hQ _ _ _ h))
/-! EveningCloakModel.becomes(II)I -/
abbrev c_M_becomes : ByteArray := prog_6_method_7_code
def y_M_becomes : MethodName := ⟨"EveningCloakModel", "becomes", "(II)I"⟩
def rm_M_becomes : Room := { frames := 0, cells := 0, slots := 0, locals := 0 }
theorem cy_M_becomes : Cy y_M_becomes c_M_becomes 4 (some .int) 2 := ⟨lgm 824 (by decide +kernel) rfl, lgm 73 (by decide +kernel) rfl, by decide +kernel, by decide +kernel⟩
theorem im_M_becomes : Cond.instanceMethod y_M_becomes ∈ lg := lgm 823 (by decide +kernel) rfl
theorem se_M_becomes : Cond.selects y_M_becomes.cls y_M_becomes y_M_becomes ∈ lg := lgm 18 (by decide +kernel) rfl
def e_M_becomes : List Ent := [
  (0, .aload_n 0, 1, 1, .null, 0, 0, 0),
  (1, .getfield 9, 3, 4, .null, 4, 0, 762),
  (4, .iload_n 1, 1, 5, .null, 0, 0, 0),
  (5, .iaload, 1, 6, .null, 0, 0, 0),
  (6, .istore_n 3, 1, 7, .null, 0, 0, 0),
  (7, .aload_n 0, 1, 8, .null, 0, 0, 0),
  (8, .getfield 9, 3, 11, .null, 4, 0, 762),
  (11, .iload_n 1, 1, 12, .null, 0, 0, 0),
  (12, .iload_n 2, 1, 13, .null, 0, 0, 0),
  (13, .iastore, 1, 14, .null, 0, 0, 0),
  (14, .iload_n 3, 1, 15, .null, 0, 0, 0),
  (15, .ireturn, 1, 16, .null, 0, 0, 0)]
set_option maxRecDepth 100000 in
theorem ek_M_becomes : e_M_becomes.all (eok 4 c_M_becomes) = true := by decide +kernel
def F_M_becomes_0 (t : Nat) (x1 : Int32) (x2 : Int32) (w : A_W) : Option (Int32 × A_W) :=
  (gr w t 4 0).bind fun a1 =>
  (rd w a1 x1).bind fun v2 =>
  (gr w t 4 0).bind fun a3 =>
  (wr w a3 x1 x2).bind fun w4 =>
  some (v2, w4)
set_option maxHeartbeats 4000000 in
set_option maxRecDepth 100000 in
theorem s_M_becomes_0 {G : Gx} {X : Cx} {res : Int32 × A_W} (K : Ok G X 4 c_M_becomes 4 (some .int) rm_M_becomes) (hQ : QQ G X (some (.int res.1)) res.2 0 0) (t : Nat) (x1 : Int32) (x2 : Int32) (w : A_W) (h : F_M_becomes_0 t x1 x2 w = some res) : Sm G X w 0 0 [some (.ref t), some (.int x1), some (.int x2), none] [] 0 := by
  unfold F_M_becomes_0 at h
  refine Sm_run K ek_M_becomes 0 1 rfl ?_
  obtain ⟨a1, e_a1, h⟩ := Option.bind_eq_some_iff.mp h
  refine Sm_gr K (eo ek_M_becomes (i := 1) rfl) e_a1 ?_
  refine Sm_run K ek_M_becomes 2 1 rfl ?_
  obtain ⟨v2, e_v2, h⟩ := Option.bind_eq_some_iff.mp h
  refine Sm_rd K (eok_i (eo ek_M_becomes (i := 3) rfl) rfl) e_v2 ?_
  refine Sm_run K ek_M_becomes 4 2 rfl ?_
  obtain ⟨a3, e_a3, h⟩ := Option.bind_eq_some_iff.mp h
  refine Sm_gr K (eo ek_M_becomes (i := 6) rfl) e_a3 ?_
  refine Sm_run K ek_M_becomes 7 2 rfl ?_
  obtain ⟨w4, e_w4, h⟩ := Option.bind_eq_some_iff.mp h
  refine Sm_wr K (eok_i (eo ek_M_becomes (i := 9) rfl) rfl) e_w4 ?_
  refine Sm_run K ek_M_becomes 10 1 rfl ?_
  obtain rfl := Option.some.inj h
  exact Sm_reti K hQ (eok_i (eo ek_M_becomes (i := 11) rfl) rfl)
def F_M_becomes (t : Nat) (x1 : Int32) (x2 : Int32) (w : A_W) : Option (Int32 × A_W) := F_M_becomes_0 t x1 x2 w
theorem cn_M_becomes {G : Gx} {t : Nat} {x1 : Int32} {x2 : Int32} {w : A_W} {res : Int32 × A_W} (h : F_M_becomes t x1 x2 w = some res) : Cn G y_M_becomes c_M_becomes 4 (some .int) rm_M_becomes [.ref t, .int x1, .int x2] w (some (.int res.1)) res.2 :=
  Cn_of (own := 4) cy_M_becomes rfl rfl (Nat.le_of_ble_eq_true rfl) rfl (fun X K _ hQ => Sm_le (leR_s (leR_s (leR_s (leR_n leR_nil)))) (s_M_becomes_0 K hQ _ _ _ _ h))
/-! EveningCloakModel.isDeposit(I)Z -/
abbrev c_M_isDeposit : ByteArray := prog_6_method_8_code
def y_M_isDeposit : MethodName := ⟨"EveningCloakModel", "isDeposit", "(I)Z"⟩
def rm_M_isDeposit : Room := { frames := 1, cells := 0, slots := 0, locals := 22 }
theorem cy_M_isDeposit : Cy y_M_isDeposit c_M_isDeposit 2 (some .boolean) 1 := ⟨lgm 866 (by decide +kernel) rfl, lgm 73 (by decide +kernel) rfl, by decide +kernel, by decide +kernel⟩
theorem im_M_isDeposit : Cond.instanceMethod y_M_isDeposit ∈ lg := lgm 865 (by decide +kernel) rfl
theorem se_M_isDeposit : Cond.selects y_M_isDeposit.cls y_M_isDeposit y_M_isDeposit ∈ lg := lgm 24 (by decide +kernel) rfl
def e_M_isDeposit : List Ent := [
  (0, .iload_n 1, 1, 1, .null, 0, 0, 0),
  (1, .iconst 0, 1, 2, .int 0, 0, 0, 0),
  (2, .aload_n 0, 1, 3, .null, 0, 0, 0),
  (3, .getfield 9, 3, 6, .null, 4, 0, 762),
  (6, .iconst 3, 1, 7, .int 3, 0, 0, 0),
  (7, .iaload, 1, 8, .null, 0, 0, 0),
  (8, .iconst 1, 1, 9, .int 1, 0, 0, 0),
  (9, .isub, 1, 10, .null, 0, 0, 0),
  (10, .invokestatic 40, 3, 13, .null, 0, 0, 0),
  (13, .ireturn, 1, 14, .null, 0, 0, 0)]
set_option maxRecDepth 100000 in
theorem ek_M_isDeposit : e_M_isDeposit.all (eok 4 c_M_isDeposit) = true := by decide +kernel
def F_M_isDeposit_0 (t : Nat) (x1 : Int32) (w : A_W) : Option (Int32 × A_W) :=
  (gr w t 4 0).bind fun a1 =>
  (rd w a1 3).bind fun v2 =>
  (F_M_in x1 0 (v2 - 1) w).bind fun p3 =>
  (bz p3.1).bind fun b4 =>
  some (b4, p3.2)
set_option maxHeartbeats 4000000 in
set_option maxRecDepth 100000 in
theorem s_M_isDeposit_0 {G : Gx} {X : Cx} {res : Int32 × A_W} (K : Ok G X 4 c_M_isDeposit 2 (some .boolean) rm_M_isDeposit) (hQ : QQ G X (some (.int res.1)) res.2 0 0) (t : Nat) (x1 : Int32) (w : A_W) (h : F_M_isDeposit_0 t x1 w = some res) : Sm G X w 0 0 [some (.ref t), some (.int x1)] [] 0 := by
  unfold F_M_isDeposit_0 at h
  refine Sm_run K ek_M_isDeposit 0 3 rfl ?_
  obtain ⟨a1, e_a1, h⟩ := Option.bind_eq_some_iff.mp h
  refine Sm_gr K (eo ek_M_isDeposit (i := 3) rfl) e_a1 ?_
  refine Sm_run K ek_M_isDeposit 4 1 rfl ?_
  obtain ⟨v2, e_v2, h⟩ := Option.bind_eq_some_iff.mp h
  refine Sm_rd K (eok_i (eo ek_M_isDeposit (i := 5) rfl) rfl) e_v2 ?_
  refine Sm_run K ek_M_isDeposit 6 2 rfl ?_
  obtain ⟨p3, e_p3, h⟩ := Option.bind_eq_some_iff.mp h
  refine Sm_callS K (eok_i (eo ek_M_isDeposit (i := 8) rfl) rfl) cy_M_in st_M_in (lgm 815 (by decide +kernel) rfl) ⟨Nat.le_of_ble_eq_true rfl, Nat.le_of_ble_eq_true rfl⟩ (as := [.int x1, .int 0, .int (v2 - 1)]) (st := []) rfl rfl rfl (Nat.le_of_ble_eq_true rfl) ⟨Nat.le_of_ble_eq_true rfl, Nat.le_of_ble_eq_true rfl⟩ (cn_M_in e_p3) ?_
  refine Sm_eq (st1 := .int p3.1 :: []) (nc1 := 0) (ns1 := 0) rfl rfl rfl ?_
  obtain ⟨b4, e_b4, h⟩ := Option.bind_eq_some_iff.mp h
  obtain rfl := Option.some.inj h
  exact Sm_retz K e_b4 hQ (eok_i (eo ek_M_isDeposit (i := 9) rfl) rfl)
def F_M_isDeposit (t : Nat) (x1 : Int32) (w : A_W) : Option (Int32 × A_W) := F_M_isDeposit_0 t x1 w
theorem cn_M_isDeposit {G : Gx} {t : Nat} {x1 : Int32} {w : A_W} {res : Int32 × A_W} (h : F_M_isDeposit t x1 w = some res) : Cn G y_M_isDeposit c_M_isDeposit 2 (some .boolean) rm_M_isDeposit [.ref t, .int x1] w (some (.int res.1)) res.2 :=
  Cn_of (own := 4) cy_M_isDeposit rfl rfl (Nat.le_of_ble_eq_true rfl) rfl (fun X K _ hQ => Sm_le (leR_s (leR_s leR_nil)) (s_M_isDeposit_0 K hQ _ _ _ h))
/-! EveningCloakModel.isGirl(I)Z -/
abbrev c_M_isGirl : ByteArray := prog_6_method_9_code
def y_M_isGirl : MethodName := ⟨"EveningCloakModel", "isGirl", "(I)Z"⟩
def rm_M_isGirl : Room := { frames := 1, cells := 0, slots := 0, locals := 22 }
theorem cy_M_isGirl : Cy y_M_isGirl c_M_isGirl 2 (some .boolean) 1 := ⟨lgm 912 (by decide +kernel) rfl, lgm 73 (by decide +kernel) rfl, by decide +kernel, by decide +kernel⟩
theorem im_M_isGirl : Cond.instanceMethod y_M_isGirl ∈ lg := lgm 911 (by decide +kernel) rfl
theorem se_M_isGirl : Cond.selects y_M_isGirl.cls y_M_isGirl y_M_isGirl ∈ lg := lgm 32 (by decide +kernel) rfl
def e_M_isGirl : List Ent := [
  (0, .iload_n 1, 1, 1, .null, 0, 0, 0),
  (1, .iconst 0, 1, 2, .int 0, 0, 0, 0),
  (2, .aload_n 0, 1, 3, .null, 0, 0, 0),
  (3, .getfield 9, 3, 6, .null, 4, 0, 762),
  (6, .iconst 4, 1, 7, .int 4, 0, 0, 0),
  (7, .iaload, 1, 8, .null, 0, 0, 0),
  (8, .iconst 1, 1, 9, .int 1, 0, 0, 0),
  (9, .isub, 1, 10, .null, 0, 0, 0),
  (10, .invokestatic 40, 3, 13, .null, 0, 0, 0),
  (13, .ireturn, 1, 14, .null, 0, 0, 0)]
set_option maxRecDepth 100000 in
theorem ek_M_isGirl : e_M_isGirl.all (eok 4 c_M_isGirl) = true := by decide +kernel
def F_M_isGirl_0 (t : Nat) (x1 : Int32) (w : A_W) : Option (Int32 × A_W) :=
  (gr w t 4 0).bind fun a1 =>
  (rd w a1 4).bind fun v2 =>
  (F_M_in x1 0 (v2 - 1) w).bind fun p3 =>
  (bz p3.1).bind fun b4 =>
  some (b4, p3.2)
set_option maxHeartbeats 4000000 in
set_option maxRecDepth 100000 in
theorem s_M_isGirl_0 {G : Gx} {X : Cx} {res : Int32 × A_W} (K : Ok G X 4 c_M_isGirl 2 (some .boolean) rm_M_isGirl) (hQ : QQ G X (some (.int res.1)) res.2 0 0) (t : Nat) (x1 : Int32) (w : A_W) (h : F_M_isGirl_0 t x1 w = some res) : Sm G X w 0 0 [some (.ref t), some (.int x1)] [] 0 := by
  unfold F_M_isGirl_0 at h
  refine Sm_run K ek_M_isGirl 0 3 rfl ?_
  obtain ⟨a1, e_a1, h⟩ := Option.bind_eq_some_iff.mp h
  refine Sm_gr K (eo ek_M_isGirl (i := 3) rfl) e_a1 ?_
  refine Sm_run K ek_M_isGirl 4 1 rfl ?_
  obtain ⟨v2, e_v2, h⟩ := Option.bind_eq_some_iff.mp h
  refine Sm_rd K (eok_i (eo ek_M_isGirl (i := 5) rfl) rfl) e_v2 ?_
  refine Sm_run K ek_M_isGirl 6 2 rfl ?_
  obtain ⟨p3, e_p3, h⟩ := Option.bind_eq_some_iff.mp h
  refine Sm_callS K (eok_i (eo ek_M_isGirl (i := 8) rfl) rfl) cy_M_in st_M_in (lgm 815 (by decide +kernel) rfl) ⟨Nat.le_of_ble_eq_true rfl, Nat.le_of_ble_eq_true rfl⟩ (as := [.int x1, .int 0, .int (v2 - 1)]) (st := []) rfl rfl rfl (Nat.le_of_ble_eq_true rfl) ⟨Nat.le_of_ble_eq_true rfl, Nat.le_of_ble_eq_true rfl⟩ (cn_M_in e_p3) ?_
  refine Sm_eq (st1 := .int p3.1 :: []) (nc1 := 0) (ns1 := 0) rfl rfl rfl ?_
  obtain ⟨b4, e_b4, h⟩ := Option.bind_eq_some_iff.mp h
  obtain rfl := Option.some.inj h
  exact Sm_retz K e_b4 hQ (eok_i (eo ek_M_isGirl (i := 9) rfl) rfl)
def F_M_isGirl (t : Nat) (x1 : Int32) (w : A_W) : Option (Int32 × A_W) := F_M_isGirl_0 t x1 w
theorem cn_M_isGirl {G : Gx} {t : Nat} {x1 : Int32} {w : A_W} {res : Int32 × A_W} (h : F_M_isGirl t x1 w = some res) : Cn G y_M_isGirl c_M_isGirl 2 (some .boolean) rm_M_isGirl [.ref t, .int x1] w (some (.int res.1)) res.2 :=
  Cn_of (own := 4) cy_M_isGirl rfl rfl (Nat.le_of_ble_eq_true rfl) rfl (fun X K _ hQ => Sm_le (leR_s (leR_s leR_nil)) (s_M_isGirl_0 K hQ _ _ _ h))
/-! EveningCloakModel.isHanger(I)Z -/
abbrev c_M_isHanger : ByteArray := prog_6_method_10_code
def y_M_isHanger : MethodName := ⟨"EveningCloakModel", "isHanger", "(I)Z"⟩
def rm_M_isHanger : Room := { frames := 1, cells := 0, slots := 0, locals := 22 }
theorem cy_M_isHanger : Cy y_M_isHanger c_M_isHanger 1 (some .boolean) 1 := ⟨lgm 820 (by decide +kernel) rfl, lgm 73 (by decide +kernel) rfl, by decide +kernel, by decide +kernel⟩
theorem st_M_isHanger : Cond.static y_M_isHanger ∈ lg := lgm 819 (by decide +kernel) rfl
def e_M_isHanger : List Ent := [
  (0, .iload_n 0, 1, 1, .null, 0, 0, 0),
  (1, .iconst 0, 1, 2, .int 0, 0, 0, 0),
  (2, .bipush 15, 2, 4, .int 15, 0, 0, 0),
  (4, .invokestatic 40, 3, 7, .null, 0, 0, 0),
  (7, .ireturn, 1, 8, .null, 0, 0, 0)]
set_option maxRecDepth 100000 in
theorem ek_M_isHanger : e_M_isHanger.all (eok 4 c_M_isHanger) = true := by decide +kernel
def F_M_isHanger_0 (x0 : Int32) (w : A_W) : Option (Int32 × A_W) :=
  (F_M_in x0 0 15 w).bind fun p1 =>
  (bz p1.1).bind fun b2 =>
  some (b2, p1.2)
set_option maxHeartbeats 4000000 in
set_option maxRecDepth 100000 in
theorem s_M_isHanger_0 {G : Gx} {X : Cx} {res : Int32 × A_W} (K : Ok G X 4 c_M_isHanger 1 (some .boolean) rm_M_isHanger) (hQ : QQ G X (some (.int res.1)) res.2 0 0) (x0 : Int32) (w : A_W) (h : F_M_isHanger_0 x0 w = some res) : Sm G X w 0 0 [some (.int x0)] [] 0 := by
  unfold F_M_isHanger_0 at h
  refine Sm_run K ek_M_isHanger 0 3 rfl ?_
  obtain ⟨p1, e_p1, h⟩ := Option.bind_eq_some_iff.mp h
  refine Sm_callS K (eok_i (eo ek_M_isHanger (i := 3) rfl) rfl) cy_M_in st_M_in (lgm 815 (by decide +kernel) rfl) ⟨Nat.le_of_ble_eq_true rfl, Nat.le_of_ble_eq_true rfl⟩ (as := [.int x0, .int 0, .int 15]) (st := []) rfl rfl rfl (Nat.le_of_ble_eq_true rfl) ⟨Nat.le_of_ble_eq_true rfl, Nat.le_of_ble_eq_true rfl⟩ (cn_M_in e_p1) ?_
  refine Sm_eq (st1 := .int p1.1 :: []) (nc1 := 0) (ns1 := 0) rfl rfl rfl ?_
  obtain ⟨b2, e_b2, h⟩ := Option.bind_eq_some_iff.mp h
  obtain rfl := Option.some.inj h
  exact Sm_retz K e_b2 hQ (eok_i (eo ek_M_isHanger (i := 4) rfl) rfl)
def F_M_isHanger (x0 : Int32) (w : A_W) : Option (Int32 × A_W) := F_M_isHanger_0 x0 w
theorem cn_M_isHanger {G : Gx} {x0 : Int32} {w : A_W} {res : Int32 × A_W} (h : F_M_isHanger x0 w = some res) : Cn G y_M_isHanger c_M_isHanger 1 (some .boolean) rm_M_isHanger [.int x0] w (some (.int res.1)) res.2 :=
  Cn_of (own := 4) cy_M_isHanger rfl rfl (Nat.le_of_ble_eq_true rfl) rfl (fun X K _ hQ => Sm_le (leR_s leR_nil) (s_M_isHanger_0 K hQ _ _ h))
/-! EveningCloakModel.isPlace(I)Z -/
abbrev c_M_isPlace : ByteArray := prog_6_method_11_code
def y_M_isPlace : MethodName := ⟨"EveningCloakModel", "isPlace", "(I)Z"⟩
def rm_M_isPlace : Room := { frames := 1, cells := 0, slots := 0, locals := 22 }
theorem cy_M_isPlace : Cy y_M_isPlace c_M_isPlace 1 (some .boolean) 1 := ⟨lgm 814 (by decide +kernel) rfl, lgm 73 (by decide +kernel) rfl, by decide +kernel, by decide +kernel⟩
theorem st_M_isPlace : Cond.static y_M_isPlace ∈ lg := lgm 813 (by decide +kernel) rfl
def e_M_isPlace : List Ent := [
  (0, .iload_n 0, 1, 1, .null, 0, 0, 0),
  (1, .iconst 0, 1, 2, .int 0, 0, 0, 0),
  (2, .iconst 5, 1, 3, .int 5, 0, 0, 0),
  (3, .invokestatic 40, 3, 6, .null, 0, 0, 0),
  (6, .ireturn, 1, 7, .null, 0, 0, 0)]
set_option maxRecDepth 100000 in
theorem ek_M_isPlace : e_M_isPlace.all (eok 4 c_M_isPlace) = true := by decide +kernel
def F_M_isPlace_0 (x0 : Int32) (w : A_W) : Option (Int32 × A_W) :=
  (F_M_in x0 0 5 w).bind fun p1 =>
  (bz p1.1).bind fun b2 =>
  some (b2, p1.2)
set_option maxHeartbeats 4000000 in
set_option maxRecDepth 100000 in
theorem s_M_isPlace_0 {G : Gx} {X : Cx} {res : Int32 × A_W} (K : Ok G X 4 c_M_isPlace 1 (some .boolean) rm_M_isPlace) (hQ : QQ G X (some (.int res.1)) res.2 0 0) (x0 : Int32) (w : A_W) (h : F_M_isPlace_0 x0 w = some res) : Sm G X w 0 0 [some (.int x0)] [] 0 := by
  unfold F_M_isPlace_0 at h
  refine Sm_run K ek_M_isPlace 0 3 rfl ?_
  obtain ⟨p1, e_p1, h⟩ := Option.bind_eq_some_iff.mp h
  refine Sm_callS K (eok_i (eo ek_M_isPlace (i := 3) rfl) rfl) cy_M_in st_M_in (lgm 815 (by decide +kernel) rfl) ⟨Nat.le_of_ble_eq_true rfl, Nat.le_of_ble_eq_true rfl⟩ (as := [.int x0, .int 0, .int 5]) (st := []) rfl rfl rfl (Nat.le_of_ble_eq_true rfl) ⟨Nat.le_of_ble_eq_true rfl, Nat.le_of_ble_eq_true rfl⟩ (cn_M_in e_p1) ?_
  refine Sm_eq (st1 := .int p1.1 :: []) (nc1 := 0) (ns1 := 0) rfl rfl rfl ?_
  obtain ⟨b2, e_b2, h⟩ := Option.bind_eq_some_iff.mp h
  obtain rfl := Option.some.inj h
  exact Sm_retz K e_b2 hQ (eok_i (eo ek_M_isPlace (i := 4) rfl) rfl)
def F_M_isPlace (x0 : Int32) (w : A_W) : Option (Int32 × A_W) := F_M_isPlace_0 x0 w
theorem cn_M_isPlace {G : Gx} {x0 : Int32} {w : A_W} {res : Int32 × A_W} (h : F_M_isPlace x0 w = some res) : Cn G y_M_isPlace c_M_isPlace 1 (some .boolean) rm_M_isPlace [.int x0] w (some (.int res.1)) res.2 :=
  Cn_of (own := 4) cy_M_isPlace rfl rfl (Nat.le_of_ble_eq_true rfl) rfl (fun X K _ hQ => Sm_le (leR_s leR_nil) (s_M_isPlace_0 K hQ _ _ h))
/-! EveningCloakModel.it(II)I -/
abbrev c_M_it : ByteArray := prog_6_method_12_code
def y_M_it : MethodName := ⟨"EveningCloakModel", "it", "(II)I"⟩
def rm_M_it : Room := { frames := 0, cells := 0, slots := 0, locals := 0 }
theorem cy_M_it : Cy y_M_it c_M_it 3 (some .int) 2 := ⟨lgm 874 (by decide +kernel) rfl, lgm 73 (by decide +kernel) rfl, by decide +kernel, by decide +kernel⟩
theorem im_M_it : Cond.instanceMethod y_M_it ∈ lg := lgm 873 (by decide +kernel) rfl
theorem se_M_it : Cond.selects y_M_it.cls y_M_it y_M_it ∈ lg := lgm 26 (by decide +kernel) rfl
def e_M_it : List Ent := [
  (0, .aload_n 0, 1, 1, .null, 0, 0, 0),
  (1, .getfield 9, 3, 4, .null, 4, 0, 762),
  (4, .bipush 11, 2, 6, .int 11, 0, 0, 0),
  (6, .bipush 6, 2, 8, .int 6, 0, 0, 0),
  (8, .iload_n 1, 1, 9, .null, 0, 0, 0),
  (9, .imul, 1, 10, .null, 0, 0, 0),
  (10, .iadd, 1, 11, .null, 0, 0, 0),
  (11, .iload_n 2, 1, 12, .null, 0, 0, 0),
  (12, .iadd, 1, 13, .null, 0, 0, 0),
  (13, .iaload, 1, 14, .null, 0, 0, 0),
  (14, .ireturn, 1, 15, .null, 0, 0, 0)]
set_option maxRecDepth 100000 in
theorem ek_M_it : e_M_it.all (eok 4 c_M_it) = true := by decide +kernel
def F_M_it_0 (t : Nat) (x1 : Int32) (x2 : Int32) (w : A_W) : Option (Int32 × A_W) :=
  (gr w t 4 0).bind fun a1 =>
  (rd w a1 ((11 + (6 * x1)) + x2)).bind fun v2 =>
  some (v2, w)
set_option maxHeartbeats 4000000 in
set_option maxRecDepth 100000 in
theorem s_M_it_0 {G : Gx} {X : Cx} {res : Int32 × A_W} (K : Ok G X 4 c_M_it 3 (some .int) rm_M_it) (hQ : QQ G X (some (.int res.1)) res.2 0 0) (t : Nat) (x1 : Int32) (x2 : Int32) (w : A_W) (h : F_M_it_0 t x1 x2 w = some res) : Sm G X w 0 0 [some (.ref t), some (.int x1), some (.int x2)] [] 0 := by
  unfold F_M_it_0 at h
  refine Sm_run K ek_M_it 0 1 rfl ?_
  obtain ⟨a1, e_a1, h⟩ := Option.bind_eq_some_iff.mp h
  refine Sm_gr K (eo ek_M_it (i := 1) rfl) e_a1 ?_
  refine Sm_run K ek_M_it 2 7 rfl ?_
  obtain ⟨v2, e_v2, h⟩ := Option.bind_eq_some_iff.mp h
  refine Sm_rd K (eok_i (eo ek_M_it (i := 9) rfl) rfl) e_v2 ?_
  obtain rfl := Option.some.inj h
  exact Sm_reti K hQ (eok_i (eo ek_M_it (i := 10) rfl) rfl)
def F_M_it (t : Nat) (x1 : Int32) (x2 : Int32) (w : A_W) : Option (Int32 × A_W) := F_M_it_0 t x1 x2 w
theorem cn_M_it {G : Gx} {t : Nat} {x1 : Int32} {x2 : Int32} {w : A_W} {res : Int32 × A_W} (h : F_M_it t x1 x2 w = some res) : Cn G y_M_it c_M_it 3 (some .int) rm_M_it [.ref t, .int x1, .int x2] w (some (.int res.1)) res.2 :=
  Cn_of (own := 4) cy_M_it rfl rfl (Nat.le_of_ble_eq_true rfl) rfl (fun X K _ hQ => Sm_le (leR_s (leR_s (leR_s leR_nil))) (s_M_it_0 K hQ _ _ _ _ h))
/-! EveningCloakModel.put(III)V -/
abbrev c_M_put : ByteArray := prog_6_method_13_code
def y_M_put : MethodName := ⟨"EveningCloakModel", "put", "(III)V"⟩
def rm_M_put : Room := { frames := 0, cells := 0, slots := 0, locals := 0 }
theorem cy_M_put : Cy y_M_put c_M_put 4 (none) 3 := ⟨lgm 846 (by decide +kernel) rfl, lgm 73 (by decide +kernel) rfl, by decide +kernel, by decide +kernel⟩
theorem im_M_put : Cond.instanceMethod y_M_put ∈ lg := lgm 845 (by decide +kernel) rfl
theorem se_M_put : Cond.selects y_M_put.cls y_M_put y_M_put ∈ lg := lgm 21 (by decide +kernel) rfl
def e_M_put : List Ent := [
  (0, .aload_n 0, 1, 1, .null, 0, 0, 0),
  (1, .getfield 9, 3, 4, .null, 4, 0, 762),
  (4, .bipush 11, 2, 6, .int 11, 0, 0, 0),
  (6, .bipush 6, 2, 8, .int 6, 0, 0, 0),
  (8, .iload_n 1, 1, 9, .null, 0, 0, 0),
  (9, .imul, 1, 10, .null, 0, 0, 0),
  (10, .iadd, 1, 11, .null, 0, 0, 0),
  (11, .iload_n 2, 1, 12, .null, 0, 0, 0),
  (12, .iadd, 1, 13, .null, 0, 0, 0),
  (13, .iload_n 3, 1, 14, .null, 0, 0, 0),
  (14, .iastore, 1, 15, .null, 0, 0, 0),
  (15, .return_, 1, 16, .null, 0, 0, 0)]
set_option maxRecDepth 100000 in
theorem ek_M_put : e_M_put.all (eok 4 c_M_put) = true := by decide +kernel
def F_M_put_0 (t : Nat) (x1 : Int32) (x2 : Int32) (x3 : Int32) (w : A_W) : Option (A_W) :=
  (gr w t 4 0).bind fun a1 =>
  (wr w a1 ((11 + (6 * x1)) + x2) x3).bind fun w2 =>
  some w2
set_option maxHeartbeats 4000000 in
set_option maxRecDepth 100000 in
theorem s_M_put_0 {G : Gx} {X : Cx} {res : A_W} (K : Ok G X 4 c_M_put 4 (none) rm_M_put) (hQ : QQ G X none res 0 0) (t : Nat) (x1 : Int32) (x2 : Int32) (x3 : Int32) (w : A_W) (h : F_M_put_0 t x1 x2 x3 w = some res) : Sm G X w 0 0 [some (.ref t), some (.int x1), some (.int x2), some (.int x3)] [] 0 := by
  unfold F_M_put_0 at h
  refine Sm_run K ek_M_put 0 1 rfl ?_
  obtain ⟨a1, e_a1, h⟩ := Option.bind_eq_some_iff.mp h
  refine Sm_gr K (eo ek_M_put (i := 1) rfl) e_a1 ?_
  refine Sm_run K ek_M_put 2 8 rfl ?_
  obtain ⟨w2, e_w2, h⟩ := Option.bind_eq_some_iff.mp h
  refine Sm_wr K (eok_i (eo ek_M_put (i := 10) rfl) rfl) e_w2 ?_
  obtain rfl := Option.some.inj h
  exact Sm_retv K hQ (eok_i (eo ek_M_put (i := 11) rfl) rfl)
def F_M_put (t : Nat) (x1 : Int32) (x2 : Int32) (x3 : Int32) (w : A_W) : Option (A_W) := F_M_put_0 t x1 x2 x3 w
theorem cn_M_put {G : Gx} {t : Nat} {x1 : Int32} {x2 : Int32} {x3 : Int32} {w : A_W} {res : A_W} (h : F_M_put t x1 x2 x3 w = some res) : Cn G y_M_put c_M_put 4 (none) rm_M_put [.ref t, .int x1, .int x2, .int x3] w none res :=
  Cn_of (own := 4) cy_M_put rfl rfl (Nat.le_of_ble_eq_true rfl) rfl (fun X K _ hQ => Sm_le (leR_s (leR_s (leR_s (leR_s leR_nil)))) (s_M_put_0 K hQ _ _ _ _ _ h))
/-! EveningCloakModel.her(II)I -/
abbrev c_M_her : ByteArray := prog_6_method_14_code
def y_M_her : MethodName := ⟨"EveningCloakModel", "her", "(II)I"⟩
def rm_M_her : Room := { frames := 0, cells := 0, slots := 0, locals := 0 }
theorem cy_M_her : Cy y_M_her c_M_her 3 (some .int) 2 := ⟨lgm 916 (by decide +kernel) rfl, lgm 73 (by decide +kernel) rfl, by decide +kernel, by decide +kernel⟩
theorem im_M_her : Cond.instanceMethod y_M_her ∈ lg := lgm 915 (by decide +kernel) rfl
theorem se_M_her : Cond.selects y_M_her.cls y_M_her y_M_her ∈ lg := lgm 33 (by decide +kernel) rfl
def e_M_her : List Ent := [
  (0, .aload_n 0, 1, 1, .null, 0, 0, 0),
  (1, .getfield 9, 3, 4, .null, 4, 0, 762),
  (4, .bipush 59, 2, 6, .int 59, 0, 0, 0),
  (6, .iconst 3, 1, 7, .int 3, 0, 0, 0),
  (7, .iload_n 1, 1, 8, .null, 0, 0, 0),
  (8, .imul, 1, 9, .null, 0, 0, 0),
  (9, .iadd, 1, 10, .null, 0, 0, 0),
  (10, .iload_n 2, 1, 11, .null, 0, 0, 0),
  (11, .iadd, 1, 12, .null, 0, 0, 0),
  (12, .iaload, 1, 13, .null, 0, 0, 0),
  (13, .ireturn, 1, 14, .null, 0, 0, 0)]
set_option maxRecDepth 100000 in
theorem ek_M_her : e_M_her.all (eok 4 c_M_her) = true := by decide +kernel
def F_M_her_0 (t : Nat) (x1 : Int32) (x2 : Int32) (w : A_W) : Option (Int32 × A_W) :=
  (gr w t 4 0).bind fun a1 =>
  (rd w a1 ((59 + (3 * x1)) + x2)).bind fun v2 =>
  some (v2, w)
set_option maxHeartbeats 4000000 in
set_option maxRecDepth 100000 in
theorem s_M_her_0 {G : Gx} {X : Cx} {res : Int32 × A_W} (K : Ok G X 4 c_M_her 3 (some .int) rm_M_her) (hQ : QQ G X (some (.int res.1)) res.2 0 0) (t : Nat) (x1 : Int32) (x2 : Int32) (w : A_W) (h : F_M_her_0 t x1 x2 w = some res) : Sm G X w 0 0 [some (.ref t), some (.int x1), some (.int x2)] [] 0 := by
  unfold F_M_her_0 at h
  refine Sm_run K ek_M_her 0 1 rfl ?_
  obtain ⟨a1, e_a1, h⟩ := Option.bind_eq_some_iff.mp h
  refine Sm_gr K (eo ek_M_her (i := 1) rfl) e_a1 ?_
  refine Sm_run K ek_M_her 2 7 rfl ?_
  obtain ⟨v2, e_v2, h⟩ := Option.bind_eq_some_iff.mp h
  refine Sm_rd K (eok_i (eo ek_M_her (i := 9) rfl) rfl) e_v2 ?_
  obtain rfl := Option.some.inj h
  exact Sm_reti K hQ (eok_i (eo ek_M_her (i := 10) rfl) rfl)
def F_M_her (t : Nat) (x1 : Int32) (x2 : Int32) (w : A_W) : Option (Int32 × A_W) := F_M_her_0 t x1 x2 w
theorem cn_M_her {G : Gx} {t : Nat} {x1 : Int32} {x2 : Int32} {w : A_W} {res : Int32 × A_W} (h : F_M_her t x1 x2 w = some res) : Cn G y_M_her c_M_her 3 (some .int) rm_M_her [.ref t, .int x1, .int x2] w (some (.int res.1)) res.2 :=
  Cn_of (own := 4) cy_M_her rfl rfl (Nat.le_of_ble_eq_true rfl) rfl (fun X K _ hQ => Sm_le (leR_s (leR_s (leR_s leR_nil))) (s_M_her_0 K hQ _ _ _ _ h))
/-! EveningCloakModel.lets(III)V -/
abbrev c_M_lets : ByteArray := prog_6_method_15_code
def y_M_lets : MethodName := ⟨"EveningCloakModel", "lets", "(III)V"⟩
def rm_M_lets : Room := { frames := 0, cells := 0, slots := 0, locals := 0 }
theorem cy_M_lets : Cy y_M_lets c_M_lets 4 (none) 3 := ⟨lgm 858 (by decide +kernel) rfl, lgm 73 (by decide +kernel) rfl, by decide +kernel, by decide +kernel⟩
theorem im_M_lets : Cond.instanceMethod y_M_lets ∈ lg := lgm 857 (by decide +kernel) rfl
theorem se_M_lets : Cond.selects y_M_lets.cls y_M_lets y_M_lets ∈ lg := lgm 23 (by decide +kernel) rfl
def e_M_lets : List Ent := [
  (0, .aload_n 0, 1, 1, .null, 0, 0, 0),
  (1, .getfield 9, 3, 4, .null, 4, 0, 762),
  (4, .bipush 59, 2, 6, .int 59, 0, 0, 0),
  (6, .iconst 3, 1, 7, .int 3, 0, 0, 0),
  (7, .iload_n 1, 1, 8, .null, 0, 0, 0),
  (8, .imul, 1, 9, .null, 0, 0, 0),
  (9, .iadd, 1, 10, .null, 0, 0, 0),
  (10, .iload_n 2, 1, 11, .null, 0, 0, 0),
  (11, .iadd, 1, 12, .null, 0, 0, 0),
  (12, .iload_n 3, 1, 13, .null, 0, 0, 0),
  (13, .iastore, 1, 14, .null, 0, 0, 0),
  (14, .return_, 1, 15, .null, 0, 0, 0)]
set_option maxRecDepth 100000 in
theorem ek_M_lets : e_M_lets.all (eok 4 c_M_lets) = true := by decide +kernel
def F_M_lets_0 (t : Nat) (x1 : Int32) (x2 : Int32) (x3 : Int32) (w : A_W) : Option (A_W) :=
  (gr w t 4 0).bind fun a1 =>
  (wr w a1 ((59 + (3 * x1)) + x2) x3).bind fun w2 =>
  some w2
set_option maxHeartbeats 4000000 in
set_option maxRecDepth 100000 in
theorem s_M_lets_0 {G : Gx} {X : Cx} {res : A_W} (K : Ok G X 4 c_M_lets 4 (none) rm_M_lets) (hQ : QQ G X none res 0 0) (t : Nat) (x1 : Int32) (x2 : Int32) (x3 : Int32) (w : A_W) (h : F_M_lets_0 t x1 x2 x3 w = some res) : Sm G X w 0 0 [some (.ref t), some (.int x1), some (.int x2), some (.int x3)] [] 0 := by
  unfold F_M_lets_0 at h
  refine Sm_run K ek_M_lets 0 1 rfl ?_
  obtain ⟨a1, e_a1, h⟩ := Option.bind_eq_some_iff.mp h
  refine Sm_gr K (eo ek_M_lets (i := 1) rfl) e_a1 ?_
  refine Sm_run K ek_M_lets 2 8 rfl ?_
  obtain ⟨w2, e_w2, h⟩ := Option.bind_eq_some_iff.mp h
  refine Sm_wr K (eok_i (eo ek_M_lets (i := 10) rfl) rfl) e_w2 ?_
  obtain rfl := Option.some.inj h
  exact Sm_retv K hQ (eok_i (eo ek_M_lets (i := 11) rfl) rfl)
def F_M_lets (t : Nat) (x1 : Int32) (x2 : Int32) (x3 : Int32) (w : A_W) : Option (A_W) := F_M_lets_0 t x1 x2 x3 w
theorem cn_M_lets {G : Gx} {t : Nat} {x1 : Int32} {x2 : Int32} {x3 : Int32} {w : A_W} {res : A_W} (h : F_M_lets t x1 x2 x3 w = some res) : Cn G y_M_lets c_M_lets 4 (none) rm_M_lets [.ref t, .int x1, .int x2, .int x3] w none res :=
  Cn_of (own := 4) cy_M_lets rfl rfl (Nat.le_of_ble_eq_true rfl) rfl (fun X K _ hQ => Sm_le (leR_s (leR_s (leR_s (leR_s leR_nil)))) (s_M_lets_0 K hQ _ _ _ _ _ h))
/-! EveningCloakModel.bits(I)I -/
abbrev c_M_bits : ByteArray := prog_6_method_16_code
def y_M_bits : MethodName := ⟨"EveningCloakModel", "bits", "(I)I"⟩
def rm_M_bits : Room := { frames := 0, cells := 0, slots := 0, locals := 0 }
theorem cy_M_bits : Cy y_M_bits c_M_bits 3 (some .int) 1 := ⟨lgm 1045 (by decide +kernel) rfl, lgm 73 (by decide +kernel) rfl, by decide +kernel, by decide +kernel⟩
theorem st_M_bits : Cond.static y_M_bits ∈ lg := lgm 1044 (by decide +kernel) rfl
def e_M_bits : List Ent := [
  (0, .iconst 0, 1, 1, .int 0, 0, 0, 0),
  (1, .istore_n 1, 1, 2, .null, 0, 0, 0),
  (2, .iload_n 0, 1, 3, .null, 0, 0, 0),
  (3, .istore_n 2, 1, 4, .null, 0, 0, 0),
  (4, .iload_n 2, 1, 5, .null, 0, 0, 0),
  (5, .ifCond .eq 15, 3, 20, .null, 0, 0, 0),
  (8, .iinc 1 1, 3, 11, .int 1, 0, 0, 0),
  (11, .iload_n 2, 1, 12, .null, 0, 0, 0),
  (12, .iload_n 2, 1, 13, .null, 0, 0, 0),
  (13, .iconst 1, 1, 14, .int 1, 0, 0, 0),
  (14, .isub, 1, 15, .null, 0, 0, 0),
  (15, .iand, 1, 16, .null, 0, 0, 0),
  (16, .istore_n 2, 1, 17, .null, 0, 0, 0),
  (17, .goto (-13), 3, 4, .null, 0, 0, 0),
  (20, .iload_n 1, 1, 21, .null, 0, 0, 0),
  (21, .ireturn, 1, 22, .null, 0, 0, 0)]
set_option maxRecDepth 100000 in
theorem ek_M_bits : e_M_bits.all (eok 4 c_M_bits) = true := by decide +kernel
def F_M_bits_4 : Nat → Int32 → Int32 → A_W → Option (Int32 × A_W)
  | 0, _, _, _ => none
  | n + 1, x1, x2, w =>
    if x2 = 0 then
      some (x1, w)
    else
      F_M_bits_4 n (x1 + 1) (x2 &&& (x2 - 1)) w
def F_M_bits_0 (x0 : Int32) (w : A_W) : Option (Int32 × A_W) :=
  F_M_bits_4 FU 0 x0 w
set_option maxHeartbeats 4000000 in
set_option maxRecDepth 100000 in
theorem s_M_bits_4 {G : Gx} {X : Cx} {res : Int32 × A_W} (K : Ok G X 4 c_M_bits 3 (some .int) rm_M_bits) (hQ : QQ G X (some (.int res.1)) res.2 0 0) : ∀ (n : Nat) (x1 : Int32) (x2 : Int32) (w : A_W), F_M_bits_4 n x1 x2 w = some res → Sm G X w 0 0 [none, some (.int x1), some (.int x2)] [] 4 := by
  intro n
  induction n with
  | zero => intro x1 x2 w h; cases h
  | succ n ih =>
    intro x1 x2 w h
    rw [F_M_bits_4] at h
    refine Sm_run K ek_M_bits 4 1 rfl ?_
    refine Sm_if_eq K (eo ek_M_bits (i := 5) rfl) (fun c1 => ?_) (fun c1 => ?_)
    · rw [if_pos c1] at h
      refine Sm_run K ek_M_bits 14 1 rfl ?_
      obtain rfl := Option.some.inj h
      exact Sm_reti K hQ (eok_i (eo ek_M_bits (i := 15) rfl) rfl)
    · rw [if_neg c1] at h
      refine Sm_run K ek_M_bits 6 8 rfl ?_
      exact Sm_le (leR_n (leR_s (leR_s leR_nil))) (ih _ _ _ h)
set_option maxHeartbeats 4000000 in
set_option maxRecDepth 100000 in
theorem s_M_bits_0 {G : Gx} {X : Cx} {res : Int32 × A_W} (K : Ok G X 4 c_M_bits 3 (some .int) rm_M_bits) (hQ : QQ G X (some (.int res.1)) res.2 0 0) (x0 : Int32) (w : A_W) (h : F_M_bits_0 x0 w = some res) : Sm G X w 0 0 [some (.int x0), none, none] [] 0 := by
  unfold F_M_bits_0 at h
  refine Sm_run K ek_M_bits 0 4 rfl ?_
  exact Sm_le (leR_n (leR_s (leR_s leR_nil))) (s_M_bits_4 K hQ FU _ _ _ h)
def F_M_bits (x0 : Int32) (w : A_W) : Option (Int32 × A_W) := F_M_bits_0 x0 w
theorem cn_M_bits {G : Gx} {x0 : Int32} {w : A_W} {res : Int32 × A_W} (h : F_M_bits x0 w = some res) : Cn G y_M_bits c_M_bits 3 (some .int) rm_M_bits [.int x0] w (some (.int res.1)) res.2 :=
  Cn_of (own := 4) cy_M_bits rfl rfl (Nat.le_of_ble_eq_true rfl) rfl (fun X K _ hQ => Sm_le (leR_s (leR_n (leR_n leR_nil))) (s_M_bits_0 K hQ _ _ h))
/-! EveningCloakModel.isHere(I)Z -/
abbrev c_M_isHere : ByteArray := prog_6_method_17_code
def y_M_isHere : MethodName := ⟨"EveningCloakModel", "isHere", "(I)Z"⟩
def rm_M_isHere : Room := { frames := 1, cells := 0, slots := 0, locals := 22 }
theorem cy_M_isHere : Cy y_M_isHere c_M_isHere 2 (some .boolean) 1 := ⟨lgm 893 (by decide +kernel) rfl, lgm 73 (by decide +kernel) rfl, by decide +kernel, by decide +kernel⟩
theorem im_M_isHere : Cond.instanceMethod y_M_isHere ∈ lg := lgm 892 (by decide +kernel) rfl
theorem se_M_isHere : Cond.selects y_M_isHere.cls y_M_isHere y_M_isHere ∈ lg := lgm 30 (by decide +kernel) rfl
def e_M_isHere : List Ent := [
  (0, .aload_n 0, 1, 1, .null, 0, 0, 0),
  (1, .iload_n 1, 1, 2, .null, 0, 0, 0),
  (2, .iconst 5, 1, 3, .int 5, 0, 0, 0),
  (3, .invokevirtual 44, 3, 6, .null, 0, 0, 0),
  (6, .ifCond .ne 7, 3, 13, .null, 0, 0, 0),
  (9, .iconst 1, 1, 10, .int 1, 0, 0, 0),
  (10, .goto 4, 3, 14, .null, 0, 0, 0),
  (13, .iconst 0, 1, 14, .int 0, 0, 0, 0),
  (14, .ireturn, 1, 15, .null, 0, 0, 0)]
set_option maxRecDepth 100000 in
theorem ek_M_isHere : e_M_isHere.all (eok 4 c_M_isHere) = true := by decide +kernel
def F_M_isHere_14 (y0 : Int32) (w : A_W) : Option (Int32 × A_W) :=
  (bz y0).bind fun b1 =>
  some (b1, w)
def F_M_isHere_0 (t : Nat) (x1 : Int32) (w : A_W) : Option (Int32 × A_W) :=
  (ob w t 4).bind fun o2 =>
  (F_M_it t x1 5 w).bind fun p1 =>
  if p1.1 = 0 then
    F_M_isHere_14 1 p1.2
  else
    F_M_isHere_14 0 p1.2
set_option maxHeartbeats 4000000 in
set_option maxRecDepth 100000 in
theorem s_M_isHere_14 {G : Gx} {X : Cx} {res : Int32 × A_W} (K : Ok G X 4 c_M_isHere 2 (some .boolean) rm_M_isHere) (hQ : QQ G X (some (.int res.1)) res.2 0 0) (y0 : Int32) (w : A_W) (h : F_M_isHere_14 y0 w = some res) : Sm G X w 0 0 [none, none] [.int y0] 14 := by
  unfold F_M_isHere_14 at h
  obtain ⟨b1, e_b1, h⟩ := Option.bind_eq_some_iff.mp h
  obtain rfl := Option.some.inj h
  exact Sm_retz K e_b1 hQ (eok_i (eo ek_M_isHere (i := 8) rfl) rfl)
set_option maxHeartbeats 4000000 in
set_option maxRecDepth 100000 in
theorem s_M_isHere_0 {G : Gx} {X : Cx} {res : Int32 × A_W} (K : Ok G X 4 c_M_isHere 2 (some .boolean) rm_M_isHere) (hQ : QQ G X (some (.int res.1)) res.2 0 0) (t : Nat) (x1 : Int32) (w : A_W) (h : F_M_isHere_0 t x1 w = some res) : Sm G X w 0 0 [some (.ref t), some (.int x1)] [] 0 := by
  unfold F_M_isHere_0 at h
  refine Sm_run K ek_M_isHere 0 3 rfl ?_
  obtain ⟨o2, e_o2, h⟩ := Option.bind_eq_some_iff.mp h
  obtain ⟨p1, e_p1, h⟩ := Option.bind_eq_some_iff.mp h
  refine Sm_callV K (eok_i (eo ek_M_isHere (i := 3) rfl) rfl) cy_M_it im_M_it se_M_it (lgm 871 (by decide +kernel) rfl) ⟨Nat.le_of_ble_eq_true rfl, Nat.le_of_ble_eq_true rfl⟩ (as := [.int x1, .int 5]) (b := t) (st := []) (ob_e e_o2) (by decide) rfl rfl rfl rfl (Nat.le_of_ble_eq_true rfl) ⟨Nat.le_of_ble_eq_true rfl, Nat.le_of_ble_eq_true rfl⟩ (cn_M_it e_p1) ?_
  refine Sm_eq (st1 := .int p1.1 :: []) (nc1 := 0) (ns1 := 0) rfl rfl rfl ?_
  refine Sm_if_ne K (eo ek_M_isHere (i := 4) rfl) (fun c3 => ?_) (fun c3 => ?_)
  · rw [if_neg c3] at h
    refine Sm_run K ek_M_isHere 7 1 rfl ?_
    exact Sm_le (leR_n (leR_n leR_nil)) (s_M_isHere_14 K hQ _ _ h)
  · rw [if_pos c3] at h
    refine Sm_run K ek_M_isHere 5 2 rfl ?_
    exact Sm_le (leR_n (leR_n leR_nil)) (s_M_isHere_14 K hQ _ _ h)
def F_M_isHere (t : Nat) (x1 : Int32) (w : A_W) : Option (Int32 × A_W) := F_M_isHere_0 t x1 w
theorem cn_M_isHere {G : Gx} {t : Nat} {x1 : Int32} {w : A_W} {res : Int32 × A_W} (h : F_M_isHere t x1 w = some res) : Cn G y_M_isHere c_M_isHere 2 (some .boolean) rm_M_isHere [.ref t, .int x1] w (some (.int res.1)) res.2 :=
  Cn_of (own := 4) cy_M_isHere rfl rfl (Nat.le_of_ble_eq_true rfl) rfl (fun X K _ hQ => Sm_le (leR_s (leR_s leR_nil)) (s_M_isHere_0 K hQ _ _ _ h))
/-! EveningCloakModel.shines(I)I -/
abbrev c_M_shines : ByteArray := prog_6_method_18_code
def y_M_shines : MethodName := ⟨"EveningCloakModel", "shines", "(I)I"⟩
def rm_M_shines : Room := { frames := 1, cells := 0, slots := 0, locals := 22 }
theorem cy_M_shines : Cy y_M_shines c_M_shines 3 (some .int) 1 := ⟨lgm 870 (by decide +kernel) rfl, lgm 73 (by decide +kernel) rfl, by decide +kernel, by decide +kernel⟩
theorem im_M_shines : Cond.instanceMethod y_M_shines ∈ lg := lgm 869 (by decide +kernel) rfl
theorem se_M_shines : Cond.selects y_M_shines.cls y_M_shines y_M_shines ∈ lg := lgm 25 (by decide +kernel) rfl
def e_M_shines : List Ent := [
  (0, .bipush 20, 2, 2, .int 20, 0, 0, 0),
  (2, .aload_n 0, 1, 3, .null, 0, 0, 0),
  (3, .iload_n 1, 1, 4, .null, 0, 0, 0),
  (4, .iconst 3, 1, 5, .int 3, 0, 0, 0),
  (5, .invokevirtual 44, 3, 8, .null, 0, 0, 0),
  (8, .bipush 10, 2, 10, .int 10, 0, 0, 0),
  (10, .idiv, 1, 11, .null, 0, 0, 0),
  (11, .iadd, 1, 12, .null, 0, 0, 0),
  (12, .iconst 0, 1, 13, .int 0, 0, 0, 0),
  (13, .bipush 50, 2, 15, .int 50, 0, 0, 0),
  (15, .invokestatic 48, 3, 18, .null, 0, 0, 0),
  (18, .istore_n 2, 1, 19, .null, 0, 0, 0),
  (19, .aload_n 0, 1, 20, .null, 0, 0, 0),
  (20, .iload_n 1, 1, 21, .null, 0, 0, 0),
  (21, .iconst 0, 1, 22, .int 0, 0, 0, 0),
  (22, .invokevirtual 44, 3, 25, .null, 0, 0, 0),
  (25, .tableswitch 58 1 6 #[39, 58, 41, 45, 58, 56], 39, 64, .null, 0, 0, 0),
  (64, .iload_n 2, 1, 65, .null, 0, 0, 0),
  (65, .ireturn, 1, 66, .null, 0, 0, 0),
  (66, .iload_n 2, 1, 67, .null, 0, 0, 0),
  (67, .iconst 2, 1, 68, .int 2, 0, 0, 0),
  (68, .idiv, 1, 69, .null, 0, 0, 0),
  (69, .ireturn, 1, 70, .null, 0, 0, 0),
  (70, .iload_n 2, 1, 71, .null, 0, 0, 0),
  (71, .iconst 2, 1, 72, .int 2, 0, 0, 0),
  (72, .idiv, 1, 73, .null, 0, 0, 0),
  (73, .aload_n 0, 1, 74, .null, 0, 0, 0),
  (74, .iload_n 1, 1, 75, .null, 0, 0, 0),
  (75, .iconst 4, 1, 76, .int 4, 0, 0, 0),
  (76, .invokevirtual 44, 3, 79, .null, 0, 0, 0),
  (79, .iadd, 1, 80, .null, 0, 0, 0),
  (80, .ireturn, 1, 81, .null, 0, 0, 0),
  (81, .iconst 3, 1, 82, .int 3, 0, 0, 0),
  (82, .ireturn, 1, 83, .null, 0, 0, 0),
  (83, .iconst 0, 1, 84, .int 0, 0, 0, 0),
  (84, .ireturn, 1, 85, .null, 0, 0, 0)]
set_option maxRecDepth 100000 in
theorem ek_M_shines : e_M_shines.all (eok 4 c_M_shines) = true := by decide +kernel
def F_M_shines_83 (w : A_W) : Option (Int32 × A_W) :=
  some (0, w)
def F_M_shines_0 (t : Nat) (x1 : Int32) (w : A_W) : Option (Int32 × A_W) :=
  (ob w t 4).bind fun o2 =>
  (F_M_it t x1 3 w).bind fun p1 =>
  (F_M_held (20 + (p1.1 / 10)) 0 50 p1.2).bind fun p3 =>
  (ob p3.2 t 4).bind fun o5 =>
  (F_M_it t x1 0 p3.2).bind fun p4 =>
  if p4.1 = 1 then
    some (p3.1, p4.2)
  else if p4.1 = 2 then
    F_M_shines_83 p4.2
  else if p4.1 = 3 then
    some ((p3.1 / 2), p4.2)
  else if p4.1 = 4 then
    (ob p4.2 t 4).bind fun o7 =>
    (F_M_it t x1 4 p4.2).bind fun p6 =>
    some (((p3.1 / 2) + p6.1), p6.2)
  else if p4.1 = 5 then
    F_M_shines_83 p4.2
  else if p4.1 = 6 then
    some (3, p4.2)
  else
    F_M_shines_83 p4.2
set_option maxHeartbeats 4000000 in
set_option maxRecDepth 100000 in
theorem s_M_shines_83 {G : Gx} {X : Cx} {res : Int32 × A_W} (K : Ok G X 4 c_M_shines 3 (some .int) rm_M_shines) (hQ : QQ G X (some (.int res.1)) res.2 0 0) (w : A_W) (h : F_M_shines_83 w = some res) : Sm G X w 0 0 [none, none, none] [] 83 := by
  unfold F_M_shines_83 at h
  refine Sm_run K ek_M_shines 34 1 rfl ?_
  obtain rfl := Option.some.inj h
  exact Sm_reti K hQ (eok_i (eo ek_M_shines (i := 35) rfl) rfl)
set_option maxHeartbeats 4000000 in
set_option maxRecDepth 100000 in
theorem s_M_shines_0 {G : Gx} {X : Cx} {res : Int32 × A_W} (K : Ok G X 4 c_M_shines 3 (some .int) rm_M_shines) (hQ : QQ G X (some (.int res.1)) res.2 0 0) (t : Nat) (x1 : Int32) (w : A_W) (h : F_M_shines_0 t x1 w = some res) : Sm G X w 0 0 [some (.ref t), some (.int x1), none] [] 0 := by
  unfold F_M_shines_0 at h
  refine Sm_run K ek_M_shines 0 4 rfl ?_
  obtain ⟨o2, e_o2, h⟩ := Option.bind_eq_some_iff.mp h
  obtain ⟨p1, e_p1, h⟩ := Option.bind_eq_some_iff.mp h
  refine Sm_callV K (eok_i (eo ek_M_shines (i := 4) rfl) rfl) cy_M_it im_M_it se_M_it (lgm 871 (by decide +kernel) rfl) ⟨Nat.le_of_ble_eq_true rfl, Nat.le_of_ble_eq_true rfl⟩ (as := [.int x1, .int 3]) (b := t) (st := [.int 20]) (ob_e e_o2) (by decide) rfl rfl rfl rfl (Nat.le_of_ble_eq_true rfl) ⟨Nat.le_of_ble_eq_true rfl, Nat.le_of_ble_eq_true rfl⟩ (cn_M_it e_p1) ?_
  refine Sm_eq (st1 := .int p1.1 :: [.int 20]) (nc1 := 0) (ns1 := 0) rfl rfl rfl ?_
  refine Sm_run K ek_M_shines 5 1 rfl ?_
  refine Sm_idiv K (eok_i (eo ek_M_shines (i := 6) rfl) rfl) (by decide) ?_
  refine Sm_run K ek_M_shines 7 3 rfl ?_
  obtain ⟨p3, e_p3, h⟩ := Option.bind_eq_some_iff.mp h
  refine Sm_callS K (eok_i (eo ek_M_shines (i := 10) rfl) rfl) cy_M_held st_M_held (lgm 875 (by decide +kernel) rfl) ⟨Nat.le_of_ble_eq_true rfl, Nat.le_of_ble_eq_true rfl⟩ (as := [.int (20 + (p1.1 / 10)), .int 0, .int 50]) (st := []) rfl rfl rfl (Nat.le_of_ble_eq_true rfl) ⟨Nat.le_of_ble_eq_true rfl, Nat.le_of_ble_eq_true rfl⟩ (cn_M_held e_p3) ?_
  refine Sm_eq (st1 := .int p3.1 :: []) (nc1 := 0) (ns1 := 0) rfl rfl rfl ?_
  refine Sm_run K ek_M_shines 11 4 rfl ?_
  obtain ⟨o5, e_o5, h⟩ := Option.bind_eq_some_iff.mp h
  obtain ⟨p4, e_p4, h⟩ := Option.bind_eq_some_iff.mp h
  refine Sm_callV K (eok_i (eo ek_M_shines (i := 15) rfl) rfl) cy_M_it im_M_it se_M_it (lgm 871 (by decide +kernel) rfl) ⟨Nat.le_of_ble_eq_true rfl, Nat.le_of_ble_eq_true rfl⟩ (as := [.int x1, .int 0]) (b := t) (st := []) (ob_e e_o5) (by decide) rfl rfl rfl rfl (Nat.le_of_ble_eq_true rfl) ⟨Nat.le_of_ble_eq_true rfl, Nat.le_of_ble_eq_true rfl⟩ (cn_M_it e_p4) ?_
  refine Sm_eq (st1 := .int p4.1 :: []) (nc1 := 0) (ns1 := 0) rfl rfl rfl ?_
  refine Sm_tsw K (eok_d (eo ek_M_shines (i := 16) rfl)) [64, 83, 66, 70, 83, 81] 83 (by decide) (by decide) (by decide) (fun j hj hx => ?_) (fun hx => ?_)
  · have hj : j < 6 := hj
    rcases (show j = 0 ∨ j = 1 ∨ j = 2 ∨ j = 3 ∨ j = 4 ∨ j = 5 by omega) with rfl | rfl | rfl | rfl | rfl | rfl
    · have hc : p4.1 = 1 := Int32.toInt_inj.mp (hx.trans (by decide))
      rw [if_pos hc] at h
      refine Sm_pc (pc1 := 64) rfl ?_
      refine Sm_run K ek_M_shines 17 1 rfl ?_
      obtain rfl := Option.some.inj h
      exact Sm_reti K hQ (eok_i (eo ek_M_shines (i := 18) rfl) rfl)
    · have hc : p4.1 = 2 := Int32.toInt_inj.mp (hx.trans (by decide))
      rw [if_neg (by rw [hc]; decide), if_pos hc] at h
      refine Sm_pc (pc1 := 83) rfl ?_
      exact Sm_le (leR_n (leR_n (leR_n leR_nil))) (s_M_shines_83 K hQ _ h)
    · have hc : p4.1 = 3 := Int32.toInt_inj.mp (hx.trans (by decide))
      rw [if_neg (by rw [hc]; decide), if_neg (by rw [hc]; decide), if_pos hc] at h
      refine Sm_pc (pc1 := 66) rfl ?_
      refine Sm_run K ek_M_shines 19 2 rfl ?_
      refine Sm_idiv K (eok_i (eo ek_M_shines (i := 21) rfl) rfl) (by decide) ?_
      obtain rfl := Option.some.inj h
      exact Sm_reti K hQ (eok_i (eo ek_M_shines (i := 22) rfl) rfl)
    · have hc : p4.1 = 4 := Int32.toInt_inj.mp (hx.trans (by decide))
      rw [if_neg (by rw [hc]; decide), if_neg (by rw [hc]; decide), if_neg (by rw [hc]; decide), if_pos hc] at h
      refine Sm_pc (pc1 := 70) rfl ?_
      refine Sm_run K ek_M_shines 23 2 rfl ?_
      refine Sm_idiv K (eok_i (eo ek_M_shines (i := 25) rfl) rfl) (by decide) ?_
      refine Sm_run K ek_M_shines 26 3 rfl ?_
      obtain ⟨o7, e_o7, h⟩ := Option.bind_eq_some_iff.mp h
      obtain ⟨p6, e_p6, h⟩ := Option.bind_eq_some_iff.mp h
      refine Sm_callV K (eok_i (eo ek_M_shines (i := 29) rfl) rfl) cy_M_it im_M_it se_M_it (lgm 871 (by decide +kernel) rfl) ⟨Nat.le_of_ble_eq_true rfl, Nat.le_of_ble_eq_true rfl⟩ (as := [.int x1, .int 4]) (b := t) (st := [.int (p3.1 / 2)]) (ob_e e_o7) (by decide) rfl rfl rfl rfl (Nat.le_of_ble_eq_true rfl) ⟨Nat.le_of_ble_eq_true rfl, Nat.le_of_ble_eq_true rfl⟩ (cn_M_it e_p6) ?_
      refine Sm_eq (st1 := .int p6.1 :: [.int (p3.1 / 2)]) (nc1 := 0) (ns1 := 0) rfl rfl rfl ?_
      refine Sm_run K ek_M_shines 30 1 rfl ?_
      obtain rfl := Option.some.inj h
      exact Sm_reti K hQ (eok_i (eo ek_M_shines (i := 31) rfl) rfl)
    · have hc : p4.1 = 5 := Int32.toInt_inj.mp (hx.trans (by decide))
      rw [if_neg (by rw [hc]; decide), if_neg (by rw [hc]; decide), if_neg (by rw [hc]; decide), if_neg (by rw [hc]; decide), if_pos hc] at h
      refine Sm_pc (pc1 := 83) rfl ?_
      exact Sm_le (leR_n (leR_n (leR_n leR_nil))) (s_M_shines_83 K hQ _ h)
    · have hc : p4.1 = 6 := Int32.toInt_inj.mp (hx.trans (by decide))
      rw [if_neg (by rw [hc]; decide), if_neg (by rw [hc]; decide), if_neg (by rw [hc]; decide), if_neg (by rw [hc]; decide), if_neg (by rw [hc]; decide), if_pos hc] at h
      refine Sm_pc (pc1 := 81) rfl ?_
      refine Sm_run K ek_M_shines 32 1 rfl ?_
      obtain rfl := Option.some.inj h
      exact Sm_reti K hQ (eok_i (eo ek_M_shines (i := 33) rfl) rfl)
  · rw [if_neg (fun hc => hx 0 (by decide) (by rw [hc]; decide)), if_neg (fun hc => hx 1 (by decide) (by rw [hc]; decide)), if_neg (fun hc => hx 2 (by decide) (by rw [hc]; decide)), if_neg (fun hc => hx 3 (by decide) (by rw [hc]; decide)), if_neg (fun hc => hx 4 (by decide) (by rw [hc]; decide)), if_neg (fun hc => hx 5 (by decide) (by rw [hc]; decide))] at h
    exact Sm_le (leR_n (leR_n (leR_n leR_nil))) (s_M_shines_83 K hQ _ h)
def F_M_shines (t : Nat) (x1 : Int32) (w : A_W) : Option (Int32 × A_W) := F_M_shines_0 t x1 w
theorem cn_M_shines {G : Gx} {t : Nat} {x1 : Int32} {w : A_W} {res : Int32 × A_W} (h : F_M_shines t x1 w = some res) : Cn G y_M_shines c_M_shines 3 (some .int) rm_M_shines [.ref t, .int x1] w (some (.int res.1)) res.2 :=
  Cn_of (own := 4) cy_M_shines rfl rfl (Nat.le_of_ble_eq_true rfl) rfl (fun X K _ hQ => Sm_le (leR_s (leR_s (leR_n leR_nil))) (s_M_shines_0 K hQ _ _ _ h))
/-! EveningCloakModel.reaches(I)I -/
abbrev c_M_reaches : ByteArray := prog_6_method_19_code
def y_M_reaches : MethodName := ⟨"EveningCloakModel", "reaches", "(I)I"⟩
def rm_M_reaches : Room := { frames := 1, cells := 0, slots := 0, locals := 22 }
theorem cy_M_reaches : Cy y_M_reaches c_M_reaches 2 (some .int) 1 := ⟨lgm 881 (by decide +kernel) rfl, lgm 73 (by decide +kernel) rfl, by decide +kernel, by decide +kernel⟩
theorem im_M_reaches : Cond.instanceMethod y_M_reaches ∈ lg := lgm 880 (by decide +kernel) rfl
theorem se_M_reaches : Cond.selects y_M_reaches.cls y_M_reaches y_M_reaches ∈ lg := lgm 27 (by decide +kernel) rfl
def e_M_reaches : List Ent := [
  (0, .aload_n 0, 1, 1, .null, 0, 0, 0),
  (1, .iload_n 1, 1, 2, .null, 0, 0, 0),
  (2, .iconst 0, 1, 3, .int 0, 0, 0, 0),
  (3, .invokevirtual 44, 3, 6, .null, 0, 0, 0),
  (6, .tableswitch 46 1 4 #[30, 46, 32, 34], 30, 36, .null, 0, 0, 0),
  (36, .iconst 3, 1, 37, .int 3, 0, 0, 0),
  (37, .ireturn, 1, 38, .null, 0, 0, 0),
  (38, .iconst 5, 1, 39, .int 5, 0, 0, 0),
  (39, .ireturn, 1, 40, .null, 0, 0, 0),
  (40, .iconst 5, 1, 41, .int 5, 0, 0, 0),
  (41, .aload_n 0, 1, 42, .null, 0, 0, 0),
  (42, .iload_n 1, 1, 43, .null, 0, 0, 0),
  (43, .iconst 4, 1, 44, .int 4, 0, 0, 0),
  (44, .invokevirtual 44, 3, 47, .null, 0, 0, 0),
  (47, .bipush 20, 2, 49, .int 20, 0, 0, 0),
  (49, .idiv, 1, 50, .null, 0, 0, 0),
  (50, .iadd, 1, 51, .null, 0, 0, 0),
  (51, .ireturn, 1, 52, .null, 0, 0, 0),
  (52, .iconst 0, 1, 53, .int 0, 0, 0, 0),
  (53, .ireturn, 1, 54, .null, 0, 0, 0)]
set_option maxRecDepth 100000 in
theorem ek_M_reaches : e_M_reaches.all (eok 4 c_M_reaches) = true := by decide +kernel
def F_M_reaches_52 (w : A_W) : Option (Int32 × A_W) :=
  some (0, w)
def F_M_reaches_0 (t : Nat) (x1 : Int32) (w : A_W) : Option (Int32 × A_W) :=
  (ob w t 4).bind fun o2 =>
  (F_M_it t x1 0 w).bind fun p1 =>
  if p1.1 = 1 then
    some (3, p1.2)
  else if p1.1 = 2 then
    F_M_reaches_52 p1.2
  else if p1.1 = 3 then
    some (5, p1.2)
  else if p1.1 = 4 then
    (ob p1.2 t 4).bind fun o4 =>
    (F_M_it t x1 4 p1.2).bind fun p3 =>
    some ((5 + (p3.1 / 20)), p3.2)
  else
    F_M_reaches_52 p1.2
set_option maxHeartbeats 4000000 in
set_option maxRecDepth 100000 in
theorem s_M_reaches_52 {G : Gx} {X : Cx} {res : Int32 × A_W} (K : Ok G X 4 c_M_reaches 2 (some .int) rm_M_reaches) (hQ : QQ G X (some (.int res.1)) res.2 0 0) (w : A_W) (h : F_M_reaches_52 w = some res) : Sm G X w 0 0 [none, none] [] 52 := by
  unfold F_M_reaches_52 at h
  refine Sm_run K ek_M_reaches 18 1 rfl ?_
  obtain rfl := Option.some.inj h
  exact Sm_reti K hQ (eok_i (eo ek_M_reaches (i := 19) rfl) rfl)
set_option maxHeartbeats 4000000 in
set_option maxRecDepth 100000 in
theorem s_M_reaches_0 {G : Gx} {X : Cx} {res : Int32 × A_W} (K : Ok G X 4 c_M_reaches 2 (some .int) rm_M_reaches) (hQ : QQ G X (some (.int res.1)) res.2 0 0) (t : Nat) (x1 : Int32) (w : A_W) (h : F_M_reaches_0 t x1 w = some res) : Sm G X w 0 0 [some (.ref t), some (.int x1)] [] 0 := by
  unfold F_M_reaches_0 at h
  refine Sm_run K ek_M_reaches 0 3 rfl ?_
  obtain ⟨o2, e_o2, h⟩ := Option.bind_eq_some_iff.mp h
  obtain ⟨p1, e_p1, h⟩ := Option.bind_eq_some_iff.mp h
  refine Sm_callV K (eok_i (eo ek_M_reaches (i := 3) rfl) rfl) cy_M_it im_M_it se_M_it (lgm 871 (by decide +kernel) rfl) ⟨Nat.le_of_ble_eq_true rfl, Nat.le_of_ble_eq_true rfl⟩ (as := [.int x1, .int 0]) (b := t) (st := []) (ob_e e_o2) (by decide) rfl rfl rfl rfl (Nat.le_of_ble_eq_true rfl) ⟨Nat.le_of_ble_eq_true rfl, Nat.le_of_ble_eq_true rfl⟩ (cn_M_it e_p1) ?_
  refine Sm_eq (st1 := .int p1.1 :: []) (nc1 := 0) (ns1 := 0) rfl rfl rfl ?_
  refine Sm_tsw K (eok_d (eo ek_M_reaches (i := 4) rfl)) [36, 52, 38, 40] 52 (by decide) (by decide) (by decide) (fun j hj hx => ?_) (fun hx => ?_)
  · have hj : j < 4 := hj
    rcases (show j = 0 ∨ j = 1 ∨ j = 2 ∨ j = 3 by omega) with rfl | rfl | rfl | rfl
    · have hc : p1.1 = 1 := Int32.toInt_inj.mp (hx.trans (by decide))
      rw [if_pos hc] at h
      refine Sm_pc (pc1 := 36) rfl ?_
      refine Sm_run K ek_M_reaches 5 1 rfl ?_
      obtain rfl := Option.some.inj h
      exact Sm_reti K hQ (eok_i (eo ek_M_reaches (i := 6) rfl) rfl)
    · have hc : p1.1 = 2 := Int32.toInt_inj.mp (hx.trans (by decide))
      rw [if_neg (by rw [hc]; decide), if_pos hc] at h
      refine Sm_pc (pc1 := 52) rfl ?_
      exact Sm_le (leR_n (leR_n leR_nil)) (s_M_reaches_52 K hQ _ h)
    · have hc : p1.1 = 3 := Int32.toInt_inj.mp (hx.trans (by decide))
      rw [if_neg (by rw [hc]; decide), if_neg (by rw [hc]; decide), if_pos hc] at h
      refine Sm_pc (pc1 := 38) rfl ?_
      refine Sm_run K ek_M_reaches 7 1 rfl ?_
      obtain rfl := Option.some.inj h
      exact Sm_reti K hQ (eok_i (eo ek_M_reaches (i := 8) rfl) rfl)
    · have hc : p1.1 = 4 := Int32.toInt_inj.mp (hx.trans (by decide))
      rw [if_neg (by rw [hc]; decide), if_neg (by rw [hc]; decide), if_neg (by rw [hc]; decide), if_pos hc] at h
      refine Sm_pc (pc1 := 40) rfl ?_
      refine Sm_run K ek_M_reaches 9 4 rfl ?_
      obtain ⟨o4, e_o4, h⟩ := Option.bind_eq_some_iff.mp h
      obtain ⟨p3, e_p3, h⟩ := Option.bind_eq_some_iff.mp h
      refine Sm_callV K (eok_i (eo ek_M_reaches (i := 13) rfl) rfl) cy_M_it im_M_it se_M_it (lgm 871 (by decide +kernel) rfl) ⟨Nat.le_of_ble_eq_true rfl, Nat.le_of_ble_eq_true rfl⟩ (as := [.int x1, .int 4]) (b := t) (st := [.int 5]) (ob_e e_o4) (by decide) rfl rfl rfl rfl (Nat.le_of_ble_eq_true rfl) ⟨Nat.le_of_ble_eq_true rfl, Nat.le_of_ble_eq_true rfl⟩ (cn_M_it e_p3) ?_
      refine Sm_eq (st1 := .int p3.1 :: [.int 5]) (nc1 := 0) (ns1 := 0) rfl rfl rfl ?_
      refine Sm_run K ek_M_reaches 14 1 rfl ?_
      refine Sm_idiv K (eok_i (eo ek_M_reaches (i := 15) rfl) rfl) (by decide) ?_
      refine Sm_run K ek_M_reaches 16 1 rfl ?_
      obtain rfl := Option.some.inj h
      exact Sm_reti K hQ (eok_i (eo ek_M_reaches (i := 17) rfl) rfl)
  · rw [if_neg (fun hc => hx 0 (by decide) (by rw [hc]; decide)), if_neg (fun hc => hx 1 (by decide) (by rw [hc]; decide)), if_neg (fun hc => hx 2 (by decide) (by rw [hc]; decide)), if_neg (fun hc => hx 3 (by decide) (by rw [hc]; decide))] at h
    exact Sm_le (leR_n (leR_n leR_nil)) (s_M_reaches_52 K hQ _ h)
def F_M_reaches (t : Nat) (x1 : Int32) (w : A_W) : Option (Int32 × A_W) := F_M_reaches_0 t x1 w
theorem cn_M_reaches {G : Gx} {t : Nat} {x1 : Int32} {w : A_W} {res : Int32 × A_W} (h : F_M_reaches t x1 w = some res) : Cn G y_M_reaches c_M_reaches 2 (some .int) rm_M_reaches [.ref t, .int x1] w (some (.int res.1)) res.2 :=
  Cn_of (own := 4) cy_M_reaches rfl rfl (Nat.le_of_ble_eq_true rfl) rfl (fun X K _ hQ => Sm_le (leR_s (leR_s leR_nil)) (s_M_reaches_0 K hQ _ _ _ h))
/-! EveningCloakModel.lightAt(I)I -/
abbrev c_M_lightAt : ByteArray := prog_6_method_20_code
def y_M_lightAt : MethodName := ⟨"EveningCloakModel", "lightAt", "(I)I"⟩
def rm_M_lightAt : Room := { frames := 2, cells := 0, slots := 0, locals := 44 }
theorem cy_M_lightAt : Cy y_M_lightAt c_M_lightAt 6 (some .int) 1 := ⟨lgm 889 (by decide +kernel) rfl, lgm 73 (by decide +kernel) rfl, by decide +kernel, by decide +kernel⟩
theorem im_M_lightAt : Cond.instanceMethod y_M_lightAt ∈ lg := lgm 888 (by decide +kernel) rfl
theorem se_M_lightAt : Cond.selects y_M_lightAt.cls y_M_lightAt y_M_lightAt ∈ lg := lgm 29 (by decide +kernel) rfl
def e_M_lightAt : List Ent := [
  (0, .iconst 0, 1, 1, .int 0, 0, 0, 0),
  (1, .istore_n 2, 1, 2, .null, 0, 0, 0),
  (2, .iconst 0, 1, 3, .int 0, 0, 0, 0),
  (3, .istore_n 3, 1, 4, .null, 0, 0, 0),
  (4, .iload_n 3, 1, 5, .null, 0, 0, 0),
  (5, .aload_n 0, 1, 6, .null, 0, 0, 0),
  (6, .getfield 9, 3, 9, .null, 4, 0, 762),
  (9, .iconst 3, 1, 10, .int 3, 0, 0, 0),
  (10, .iaload, 1, 11, .null, 0, 0, 0),
  (11, .if_icmp .ge 84, 3, 95, .null, 0, 0, 0),
  (14, .aload_n 0, 1, 15, .null, 0, 0, 0),
  (15, .iload_n 3, 1, 16, .null, 0, 0, 0),
  (16, .iconst 1, 1, 17, .int 1, 0, 0, 0),
  (17, .invokevirtual 44, 3, 20, .null, 0, 0, 0),
  (20, .iload_n 1, 1, 21, .null, 0, 0, 0),
  (21, .if_icmp .ge 14, 3, 35, .null, 0, 0, 0),
  (24, .iload_n 1, 1, 25, .null, 0, 0, 0),
  (25, .aload_n 0, 1, 26, .null, 0, 0, 0),
  (26, .iload_n 3, 1, 27, .null, 0, 0, 0),
  (27, .iconst 1, 1, 28, .int 1, 0, 0, 0),
  (28, .invokevirtual 44, 3, 31, .null, 0, 0, 0),
  (31, .isub, 1, 32, .null, 0, 0, 0),
  (32, .goto 11, 3, 43, .null, 0, 0, 0),
  (35, .aload_n 0, 1, 36, .null, 0, 0, 0),
  (36, .iload_n 3, 1, 37, .null, 0, 0, 0),
  (37, .iconst 1, 1, 38, .int 1, 0, 0, 0),
  (38, .invokevirtual 44, 3, 41, .null, 0, 0, 0),
  (41, .iload_n 1, 1, 42, .null, 0, 0, 0),
  (42, .isub, 1, 43, .null, 0, 0, 0),
  (43, .istore 4, 2, 45, .null, 0, 0, 0),
  (45, .aload_n 0, 1, 46, .null, 0, 0, 0),
  (46, .iload_n 3, 1, 47, .null, 0, 0, 0),
  (47, .invokevirtual 52, 3, 50, .null, 0, 0, 0),
  (50, .iconst 3, 1, 51, .int 3, 0, 0, 0),
  (51, .iload 4, 2, 53, .null, 0, 0, 0),
  (53, .imul, 1, 54, .null, 0, 0, 0),
  (54, .isub, 1, 55, .null, 0, 0, 0),
  (55, .istore 5, 2, 57, .null, 0, 0, 0),
  (57, .iload_n 2, 1, 58, .null, 0, 0, 0),
  (58, .aload_n 0, 1, 59, .null, 0, 0, 0),
  (59, .iload_n 3, 1, 60, .null, 0, 0, 0),
  (60, .invokevirtual 55, 3, 63, .null, 0, 0, 0),
  (63, .ifCond .eq 23, 3, 86, .null, 0, 0, 0),
  (66, .iload 4, 2, 68, .null, 0, 0, 0),
  (68, .aload_n 0, 1, 69, .null, 0, 0, 0),
  (69, .iload_n 3, 1, 70, .null, 0, 0, 0),
  (70, .invokevirtual 59, 3, 73, .null, 0, 0, 0),
  (73, .if_icmp .gt 13, 3, 86, .null, 0, 0, 0),
  (76, .iload 5, 2, 78, .null, 0, 0, 0),
  (78, .ifCond .le 8, 3, 86, .null, 0, 0, 0),
  (81, .iload 5, 2, 83, .null, 0, 0, 0),
  (83, .goto 4, 3, 87, .null, 0, 0, 0),
  (86, .iconst 0, 1, 87, .int 0, 0, 0, 0),
  (87, .iadd, 1, 88, .null, 0, 0, 0),
  (88, .istore_n 2, 1, 89, .null, 0, 0, 0),
  (89, .iinc 3 1, 3, 92, .int 1, 0, 0, 0),
  (92, .goto (-88), 3, 4, .null, 0, 0, 0),
  (95, .iload_n 2, 1, 96, .null, 0, 0, 0),
  (96, .ireturn, 1, 97, .null, 0, 0, 0)]
set_option maxRecDepth 100000 in
theorem ek_M_lightAt : e_M_lightAt.all (eok 4 c_M_lightAt) = true := by decide +kernel
def F_M_lightAt_87 (k4 : Nat → Int32 → Int32 → Int32 → A_W → Option (Int32 × A_W)) (t : Nat) (x1 : Int32) (x3 : Int32) (y0 : Int32) (y1 : Int32) (w : A_W) : Option (Int32 × A_W) :=
  k4 t x1 (y0 + y1) (x3 + 1) w
def F_M_lightAt_86 (k4 : Nat → Int32 → Int32 → Int32 → A_W → Option (Int32 × A_W)) (t : Nat) (x1 : Int32) (x3 : Int32) (y0 : Int32) (w : A_W) : Option (Int32 × A_W) :=
  F_M_lightAt_87 k4 t x1 x3 y0 0 w
def F_M_lightAt_43 (k4 : Nat → Int32 → Int32 → Int32 → A_W → Option (Int32 × A_W)) (t : Nat) (x1 : Int32) (x2 : Int32) (x3 : Int32) (y0 : Int32) (w : A_W) : Option (Int32 × A_W) :=
  (ob w t 4).bind fun o2 =>
  (F_M_shines t x3 w).bind fun p1 =>
  (ob p1.2 t 4).bind fun o4 =>
  (F_M_isHere t x3 p1.2).bind fun p3 =>
  if p3.1 = 0 then
    F_M_lightAt_86 k4 t x1 x3 x2 p3.2
  else
    (ob p3.2 t 4).bind fun o7 =>
    (F_M_reaches t x3 p3.2).bind fun p6 =>
    if p6.1 < y0 then
      F_M_lightAt_86 k4 t x1 x3 x2 p6.2
    else
      if (p1.1 - (3 * y0)) ≤ 0 then
        F_M_lightAt_86 k4 t x1 x3 x2 p6.2
      else
        F_M_lightAt_87 k4 t x1 x3 x2 (p1.1 - (3 * y0)) p6.2
def F_M_lightAt_4 : Nat → Nat → Int32 → Int32 → Int32 → A_W → Option (Int32 × A_W)
  | 0, _, _, _, _, _ => none
  | n + 1, t, x1, x2, x3, w =>
    (gr w t 4 0).bind fun a1 =>
    (rd w a1 3).bind fun v2 =>
    if v2 ≤ x3 then
      some (x2, w)
    else
      (ob w t 4).bind fun o5 =>
      (F_M_it t x3 1 w).bind fun p4 =>
      if x1 ≤ p4.1 then
        (ob p4.2 t 4).bind fun o8 =>
        (F_M_it t x3 1 p4.2).bind fun p7 =>
        F_M_lightAt_43 (F_M_lightAt_4 n) t x1 x2 x3 (p7.1 - x1) p7.2
      else
        (ob p4.2 t 4).bind fun o10 =>
        (F_M_it t x3 1 p4.2).bind fun p9 =>
        F_M_lightAt_43 (F_M_lightAt_4 n) t x1 x2 x3 (x1 - p9.1) p9.2
def F_M_lightAt_0 (t : Nat) (x1 : Int32) (w : A_W) : Option (Int32 × A_W) :=
  F_M_lightAt_4 FU t x1 0 0 w
set_option maxHeartbeats 4000000 in
set_option maxRecDepth 100000 in
theorem s_M_lightAt_87 {G : Gx} {X : Cx} {res : Int32 × A_W} (K : Ok G X 4 c_M_lightAt 6 (some .int) rm_M_lightAt) (hQ : QQ G X (some (.int res.1)) res.2 0 0) {k4 : Nat → Int32 → Int32 → Int32 → A_W → Option (Int32 × A_W)} (hk4 : ∀ (t : Nat) (x1 : Int32) (x2 : Int32) (x3 : Int32) (w : A_W), k4 t x1 x2 x3 w = some res → Sm G X w 0 0 [some (.ref t), some (.int x1), some (.int x2), some (.int x3), none, none] [] 4) (t : Nat) (x1 : Int32) (x3 : Int32) (y0 : Int32) (y1 : Int32) (w : A_W) (h : F_M_lightAt_87 k4 t x1 x3 y0 y1 w = some res) : Sm G X w 0 0 [some (.ref t), some (.int x1), none, some (.int x3), none, none] [.int y1, .int y0] 87 := by
  unfold F_M_lightAt_87 at h
  refine Sm_run K ek_M_lightAt 53 4 rfl ?_
  exact Sm_le (leR_s (leR_s (leR_s (leR_s (leR_n (leR_n leR_nil)))))) (hk4 _ _ _ _ _ h)
set_option maxHeartbeats 4000000 in
set_option maxRecDepth 100000 in
theorem s_M_lightAt_86 {G : Gx} {X : Cx} {res : Int32 × A_W} (K : Ok G X 4 c_M_lightAt 6 (some .int) rm_M_lightAt) (hQ : QQ G X (some (.int res.1)) res.2 0 0) {k4 : Nat → Int32 → Int32 → Int32 → A_W → Option (Int32 × A_W)} (hk4 : ∀ (t : Nat) (x1 : Int32) (x2 : Int32) (x3 : Int32) (w : A_W), k4 t x1 x2 x3 w = some res → Sm G X w 0 0 [some (.ref t), some (.int x1), some (.int x2), some (.int x3), none, none] [] 4) (t : Nat) (x1 : Int32) (x3 : Int32) (y0 : Int32) (w : A_W) (h : F_M_lightAt_86 k4 t x1 x3 y0 w = some res) : Sm G X w 0 0 [some (.ref t), some (.int x1), none, some (.int x3), none, none] [.int y0] 86 := by
  unfold F_M_lightAt_86 at h
  refine Sm_run K ek_M_lightAt 52 1 rfl ?_
  exact Sm_le (leR_s (leR_s (leR_n (leR_s (leR_n (leR_n leR_nil)))))) (s_M_lightAt_87 K hQ hk4 _ _ _ _ _ _ h)
set_option maxHeartbeats 4000000 in
set_option maxRecDepth 100000 in
theorem s_M_lightAt_43 {G : Gx} {X : Cx} {res : Int32 × A_W} (K : Ok G X 4 c_M_lightAt 6 (some .int) rm_M_lightAt) (hQ : QQ G X (some (.int res.1)) res.2 0 0) {k4 : Nat → Int32 → Int32 → Int32 → A_W → Option (Int32 × A_W)} (hk4 : ∀ (t : Nat) (x1 : Int32) (x2 : Int32) (x3 : Int32) (w : A_W), k4 t x1 x2 x3 w = some res → Sm G X w 0 0 [some (.ref t), some (.int x1), some (.int x2), some (.int x3), none, none] [] 4) (t : Nat) (x1 : Int32) (x2 : Int32) (x3 : Int32) (y0 : Int32) (w : A_W) (h : F_M_lightAt_43 k4 t x1 x2 x3 y0 w = some res) : Sm G X w 0 0 [some (.ref t), some (.int x1), some (.int x2), some (.int x3), none, none] [.int y0] 43 := by
  unfold F_M_lightAt_43 at h
  refine Sm_run K ek_M_lightAt 29 3 rfl ?_
  obtain ⟨o2, e_o2, h⟩ := Option.bind_eq_some_iff.mp h
  obtain ⟨p1, e_p1, h⟩ := Option.bind_eq_some_iff.mp h
  refine Sm_callV K (eok_i (eo ek_M_lightAt (i := 32) rfl) rfl) cy_M_shines im_M_shines se_M_shines (lgm 867 (by decide +kernel) rfl) ⟨Nat.le_of_ble_eq_true rfl, Nat.le_of_ble_eq_true rfl⟩ (as := [.int x3]) (b := t) (st := []) (ob_e e_o2) (by decide) rfl rfl rfl rfl (Nat.le_of_ble_eq_true rfl) ⟨Nat.le_of_ble_eq_true rfl, Nat.le_of_ble_eq_true rfl⟩ (cn_M_shines e_p1) ?_
  refine Sm_eq (st1 := .int p1.1 :: []) (nc1 := 0) (ns1 := 0) rfl rfl rfl ?_
  refine Sm_run K ek_M_lightAt 33 8 rfl ?_
  obtain ⟨o4, e_o4, h⟩ := Option.bind_eq_some_iff.mp h
  obtain ⟨p3, e_p3, h⟩ := Option.bind_eq_some_iff.mp h
  refine Sm_callV K (eok_i (eo ek_M_lightAt (i := 41) rfl) rfl) cy_M_isHere im_M_isHere se_M_isHere (lgm 890 (by decide +kernel) rfl) ⟨Nat.le_of_ble_eq_true rfl, Nat.le_of_ble_eq_true rfl⟩ (as := [.int x3]) (b := t) (st := [.int x2]) (ob_e e_o4) (by decide) rfl rfl rfl rfl (Nat.le_of_ble_eq_true rfl) ⟨Nat.le_of_ble_eq_true rfl, Nat.le_of_ble_eq_true rfl⟩ (cn_M_isHere e_p3) ?_
  refine Sm_eq (st1 := .int p3.1 :: [.int x2]) (nc1 := 0) (ns1 := 0) rfl rfl rfl ?_
  refine Sm_if_eq K (eo ek_M_lightAt (i := 42) rfl) (fun c5 => ?_) (fun c5 => ?_)
  · rw [if_pos c5] at h
    exact Sm_le (leR_s (leR_s (leR_n (leR_s (leR_n (leR_n leR_nil)))))) (s_M_lightAt_86 K hQ hk4 _ _ _ _ _ h)
  · rw [if_neg c5] at h
    refine Sm_run K ek_M_lightAt 43 3 rfl ?_
    obtain ⟨o7, e_o7, h⟩ := Option.bind_eq_some_iff.mp h
    obtain ⟨p6, e_p6, h⟩ := Option.bind_eq_some_iff.mp h
    refine Sm_callV K (eok_i (eo ek_M_lightAt (i := 46) rfl) rfl) cy_M_reaches im_M_reaches se_M_reaches (lgm 878 (by decide +kernel) rfl) ⟨Nat.le_of_ble_eq_true rfl, Nat.le_of_ble_eq_true rfl⟩ (as := [.int x3]) (b := t) (st := [.int y0, .int x2]) (ob_e e_o7) (by decide) rfl rfl rfl rfl (Nat.le_of_ble_eq_true rfl) ⟨Nat.le_of_ble_eq_true rfl, Nat.le_of_ble_eq_true rfl⟩ (cn_M_reaches e_p6) ?_
    refine Sm_eq (st1 := .int p6.1 :: [.int y0, .int x2]) (nc1 := 0) (ns1 := 0) rfl rfl rfl ?_
    refine Sm_ic_gt K (eo ek_M_lightAt (i := 47) rfl) (fun c8 => ?_) (fun c8 => ?_)
    · rw [if_pos c8] at h
      exact Sm_le (leR_s (leR_s (leR_n (leR_s (leR_n (leR_n leR_nil)))))) (s_M_lightAt_86 K hQ hk4 _ _ _ _ _ h)
    · rw [if_neg c8] at h
      refine Sm_run K ek_M_lightAt 48 1 rfl ?_
      refine Sm_if_le K (eo ek_M_lightAt (i := 49) rfl) (fun c9 => ?_) (fun c9 => ?_)
      · rw [if_pos c9] at h
        exact Sm_le (leR_s (leR_s (leR_n (leR_s (leR_n (leR_n leR_nil)))))) (s_M_lightAt_86 K hQ hk4 _ _ _ _ _ h)
      · rw [if_neg c9] at h
        refine Sm_run K ek_M_lightAt 50 2 rfl ?_
        exact Sm_le (leR_s (leR_s (leR_n (leR_s (leR_n (leR_n leR_nil)))))) (s_M_lightAt_87 K hQ hk4 _ _ _ _ _ _ h)
set_option maxHeartbeats 4000000 in
set_option maxRecDepth 100000 in
theorem s_M_lightAt_4 {G : Gx} {X : Cx} {res : Int32 × A_W} (K : Ok G X 4 c_M_lightAt 6 (some .int) rm_M_lightAt) (hQ : QQ G X (some (.int res.1)) res.2 0 0) : ∀ (n : Nat) (t : Nat) (x1 : Int32) (x2 : Int32) (x3 : Int32) (w : A_W), F_M_lightAt_4 n t x1 x2 x3 w = some res → Sm G X w 0 0 [some (.ref t), some (.int x1), some (.int x2), some (.int x3), none, none] [] 4 := by
  intro n
  induction n with
  | zero => intro t x1 x2 x3 w h; cases h
  | succ n ih =>
    intro t x1 x2 x3 w h
    rw [F_M_lightAt_4] at h
    refine Sm_run K ek_M_lightAt 4 2 rfl ?_
    obtain ⟨a1, e_a1, h⟩ := Option.bind_eq_some_iff.mp h
    refine Sm_gr K (eo ek_M_lightAt (i := 6) rfl) e_a1 ?_
    refine Sm_run K ek_M_lightAt 7 1 rfl ?_
    obtain ⟨v2, e_v2, h⟩ := Option.bind_eq_some_iff.mp h
    refine Sm_rd K (eok_i (eo ek_M_lightAt (i := 8) rfl) rfl) e_v2 ?_
    refine Sm_ic_ge K (eo ek_M_lightAt (i := 9) rfl) (fun c3 => ?_) (fun c3 => ?_)
    · rw [if_pos c3] at h
      refine Sm_run K ek_M_lightAt 57 1 rfl ?_
      obtain rfl := Option.some.inj h
      exact Sm_reti K hQ (eok_i (eo ek_M_lightAt (i := 58) rfl) rfl)
    · rw [if_neg c3] at h
      refine Sm_run K ek_M_lightAt 10 3 rfl ?_
      obtain ⟨o5, e_o5, h⟩ := Option.bind_eq_some_iff.mp h
      obtain ⟨p4, e_p4, h⟩ := Option.bind_eq_some_iff.mp h
      refine Sm_callV K (eok_i (eo ek_M_lightAt (i := 13) rfl) rfl) cy_M_it im_M_it se_M_it (lgm 871 (by decide +kernel) rfl) ⟨Nat.le_of_ble_eq_true rfl, Nat.le_of_ble_eq_true rfl⟩ (as := [.int x3, .int 1]) (b := t) (st := []) (ob_e e_o5) (by decide) rfl rfl rfl rfl (Nat.le_of_ble_eq_true rfl) ⟨Nat.le_of_ble_eq_true rfl, Nat.le_of_ble_eq_true rfl⟩ (cn_M_it e_p4) ?_
      refine Sm_eq (st1 := .int p4.1 :: []) (nc1 := 0) (ns1 := 0) rfl rfl rfl ?_
      refine Sm_run K ek_M_lightAt 14 1 rfl ?_
      refine Sm_ic_ge K (eo ek_M_lightAt (i := 15) rfl) (fun c6 => ?_) (fun c6 => ?_)
      · rw [if_pos c6] at h
        refine Sm_run K ek_M_lightAt 23 3 rfl ?_
        obtain ⟨o8, e_o8, h⟩ := Option.bind_eq_some_iff.mp h
        obtain ⟨p7, e_p7, h⟩ := Option.bind_eq_some_iff.mp h
        refine Sm_callV K (eok_i (eo ek_M_lightAt (i := 26) rfl) rfl) cy_M_it im_M_it se_M_it (lgm 871 (by decide +kernel) rfl) ⟨Nat.le_of_ble_eq_true rfl, Nat.le_of_ble_eq_true rfl⟩ (as := [.int x3, .int 1]) (b := t) (st := []) (ob_e e_o8) (by decide) rfl rfl rfl rfl (Nat.le_of_ble_eq_true rfl) ⟨Nat.le_of_ble_eq_true rfl, Nat.le_of_ble_eq_true rfl⟩ (cn_M_it e_p7) ?_
        refine Sm_eq (st1 := .int p7.1 :: []) (nc1 := 0) (ns1 := 0) rfl rfl rfl ?_
        refine Sm_run K ek_M_lightAt 27 2 rfl ?_
        exact Sm_le (leR_s (leR_s (leR_s (leR_s (leR_n (leR_n leR_nil)))))) (s_M_lightAt_43 K hQ ih _ _ _ _ _ _ h)
      · rw [if_neg c6] at h
        refine Sm_run K ek_M_lightAt 16 4 rfl ?_
        obtain ⟨o10, e_o10, h⟩ := Option.bind_eq_some_iff.mp h
        obtain ⟨p9, e_p9, h⟩ := Option.bind_eq_some_iff.mp h
        refine Sm_callV K (eok_i (eo ek_M_lightAt (i := 20) rfl) rfl) cy_M_it im_M_it se_M_it (lgm 871 (by decide +kernel) rfl) ⟨Nat.le_of_ble_eq_true rfl, Nat.le_of_ble_eq_true rfl⟩ (as := [.int x3, .int 1]) (b := t) (st := [.int x1]) (ob_e e_o10) (by decide) rfl rfl rfl rfl (Nat.le_of_ble_eq_true rfl) ⟨Nat.le_of_ble_eq_true rfl, Nat.le_of_ble_eq_true rfl⟩ (cn_M_it e_p9) ?_
        refine Sm_eq (st1 := .int p9.1 :: [.int x1]) (nc1 := 0) (ns1 := 0) rfl rfl rfl ?_
        refine Sm_run K ek_M_lightAt 21 2 rfl ?_
        exact Sm_le (leR_s (leR_s (leR_s (leR_s (leR_n (leR_n leR_nil)))))) (s_M_lightAt_43 K hQ ih _ _ _ _ _ _ h)
set_option maxHeartbeats 4000000 in
set_option maxRecDepth 100000 in
theorem s_M_lightAt_0 {G : Gx} {X : Cx} {res : Int32 × A_W} (K : Ok G X 4 c_M_lightAt 6 (some .int) rm_M_lightAt) (hQ : QQ G X (some (.int res.1)) res.2 0 0) (t : Nat) (x1 : Int32) (w : A_W) (h : F_M_lightAt_0 t x1 w = some res) : Sm G X w 0 0 [some (.ref t), some (.int x1), none, none, none, none] [] 0 := by
  unfold F_M_lightAt_0 at h
  refine Sm_run K ek_M_lightAt 0 4 rfl ?_
  exact Sm_le (leR_s (leR_s (leR_s (leR_s (leR_n (leR_n leR_nil)))))) (s_M_lightAt_4 K hQ FU _ _ _ _ _ h)
def F_M_lightAt (t : Nat) (x1 : Int32) (w : A_W) : Option (Int32 × A_W) := F_M_lightAt_0 t x1 w
theorem cn_M_lightAt {G : Gx} {t : Nat} {x1 : Int32} {w : A_W} {res : Int32 × A_W} (h : F_M_lightAt t x1 w = some res) : Cn G y_M_lightAt c_M_lightAt 6 (some .int) rm_M_lightAt [.ref t, .int x1] w (some (.int res.1)) res.2 :=
  Cn_of (own := 4) cy_M_lightAt rfl rfl (Nat.le_of_ble_eq_true rfl) rfl (fun X K _ hQ => Sm_le (leR_s (leR_s (leR_n (leR_n (leR_n (leR_n leR_nil)))))) (s_M_lightAt_0 K hQ _ _ _ h))
/-! EveningCloakModel.wears(I)I -/
abbrev c_M_wears : ByteArray := prog_6_method_21_code
def y_M_wears : MethodName := ⟨"EveningCloakModel", "wears", "(I)I"⟩
def rm_M_wears : Room := { frames := 3, cells := 0, slots := 0, locals := 69 }
theorem cy_M_wears : Cy y_M_wears c_M_wears 3 (some .int) 1 := ⟨lgm 885 (by decide +kernel) rfl, lgm 73 (by decide +kernel) rfl, by decide +kernel, by decide +kernel⟩
theorem im_M_wears : Cond.instanceMethod y_M_wears ∈ lg := lgm 884 (by decide +kernel) rfl
theorem se_M_wears : Cond.selects y_M_wears.cls y_M_wears y_M_wears ∈ lg := lgm 28 (by decide +kernel) rfl
def e_M_wears : List Ent := [
  (0, .aload_n 0, 1, 1, .null, 0, 0, 0),
  (1, .getfield 9, 3, 4, .null, 4, 0, 762),
  (4, .iconst 0, 1, 5, .int 0, 0, 0, 0),
  (5, .iaload, 1, 6, .null, 0, 0, 0),
  (6, .iconst 2, 1, 7, .int 2, 0, 0, 0),
  (7, .irem, 1, 8, .null, 0, 0, 0),
  (8, .istore_n 2, 1, 9, .null, 0, 0, 0),
  (9, .aload_n 0, 1, 10, .null, 0, 0, 0),
  (10, .iload_n 1, 1, 11, .null, 0, 0, 0),
  (11, .iconst 0, 1, 12, .int 0, 0, 0, 0),
  (12, .invokevirtual 44, 3, 15, .null, 0, 0, 0),
  (15, .tableswitch 64 1 6 #[37, 37, 39, 41, 45, 37], 37, 52, .null, 0, 0, 0),
  (52, .iconst 0, 1, 53, .int 0, 0, 0, 0),
  (53, .ireturn, 1, 54, .null, 0, 0, 0),
  (54, .iload_n 2, 1, 55, .null, 0, 0, 0),
  (55, .ireturn, 1, 56, .null, 0, 0, 0),
  (56, .iload_n 2, 1, 57, .null, 0, 0, 0),
  (57, .iconst 1, 1, 58, .int 1, 0, 0, 0),
  (58, .iadd, 1, 59, .null, 0, 0, 0),
  (59, .ireturn, 1, 60, .null, 0, 0, 0),
  (60, .aload_n 0, 1, 61, .null, 0, 0, 0),
  (61, .aload_n 0, 1, 62, .null, 0, 0, 0),
  (62, .iload_n 1, 1, 63, .null, 0, 0, 0),
  (63, .iconst 1, 1, 64, .int 1, 0, 0, 0),
  (64, .invokevirtual 44, 3, 67, .null, 0, 0, 0),
  (67, .invokevirtual 62, 3, 70, .null, 0, 0, 0),
  (70, .ifCond .le 7, 3, 77, .null, 0, 0, 0),
  (73, .iconst 2, 1, 74, .int 2, 0, 0, 0),
  (74, .goto 4, 3, 78, .null, 0, 0, 0),
  (77, .iconst 1, 1, 78, .int 1, 0, 0, 0),
  (78, .ireturn, 1, 79, .null, 0, 0, 0),
  (79, .iconst 1, 1, 80, .int 1, 0, 0, 0),
  (80, .ireturn, 1, 81, .null, 0, 0, 0)]
set_option maxRecDepth 100000 in
theorem ek_M_wears : e_M_wears.all (eok 4 c_M_wears) = true := by decide +kernel
def F_M_wears_52 (w : A_W) : Option (Int32 × A_W) :=
  some (0, w)
def F_M_wears_78 (y0 : Int32) (w : A_W) : Option (Int32 × A_W) :=
  some (y0, w)
def F_M_wears_0 (t : Nat) (x1 : Int32) (w : A_W) : Option (Int32 × A_W) :=
  (gr w t 4 0).bind fun a1 =>
  (rd w a1 0).bind fun v2 =>
  (ob w t 4).bind fun o4 =>
  (F_M_it t x1 0 w).bind fun p3 =>
  if p3.1 = 1 then
    F_M_wears_52 p3.2
  else if p3.1 = 2 then
    F_M_wears_52 p3.2
  else if p3.1 = 3 then
    some ((jrem v2 2), p3.2)
  else if p3.1 = 4 then
    some (((jrem v2 2) + 1), p3.2)
  else if p3.1 = 5 then
    (ob p3.2 t 4).bind fun o6 =>
    (F_M_it t x1 1 p3.2).bind fun p5 =>
    (ob p5.2 t 4).bind fun o8 =>
    (F_M_lightAt t p5.1 p5.2).bind fun p7 =>
    if p7.1 ≤ 0 then
      F_M_wears_78 1 p7.2
    else
      F_M_wears_78 2 p7.2
  else if p3.1 = 6 then
    F_M_wears_52 p3.2
  else
    some (1, p3.2)
set_option maxHeartbeats 4000000 in
set_option maxRecDepth 100000 in
theorem s_M_wears_52 {G : Gx} {X : Cx} {res : Int32 × A_W} (K : Ok G X 4 c_M_wears 3 (some .int) rm_M_wears) (hQ : QQ G X (some (.int res.1)) res.2 0 0) (w : A_W) (h : F_M_wears_52 w = some res) : Sm G X w 0 0 [none, none, none] [] 52 := by
  unfold F_M_wears_52 at h
  refine Sm_run K ek_M_wears 12 1 rfl ?_
  obtain rfl := Option.some.inj h
  exact Sm_reti K hQ (eok_i (eo ek_M_wears (i := 13) rfl) rfl)
set_option maxHeartbeats 4000000 in
set_option maxRecDepth 100000 in
theorem s_M_wears_78 {G : Gx} {X : Cx} {res : Int32 × A_W} (K : Ok G X 4 c_M_wears 3 (some .int) rm_M_wears) (hQ : QQ G X (some (.int res.1)) res.2 0 0) (y0 : Int32) (w : A_W) (h : F_M_wears_78 y0 w = some res) : Sm G X w 0 0 [none, none, none] [.int y0] 78 := by
  unfold F_M_wears_78 at h
  obtain rfl := Option.some.inj h
  exact Sm_reti K hQ (eok_i (eo ek_M_wears (i := 30) rfl) rfl)
set_option maxHeartbeats 4000000 in
set_option maxRecDepth 100000 in
theorem s_M_wears_0 {G : Gx} {X : Cx} {res : Int32 × A_W} (K : Ok G X 4 c_M_wears 3 (some .int) rm_M_wears) (hQ : QQ G X (some (.int res.1)) res.2 0 0) (t : Nat) (x1 : Int32) (w : A_W) (h : F_M_wears_0 t x1 w = some res) : Sm G X w 0 0 [some (.ref t), some (.int x1), none] [] 0 := by
  unfold F_M_wears_0 at h
  refine Sm_run K ek_M_wears 0 1 rfl ?_
  obtain ⟨a1, e_a1, h⟩ := Option.bind_eq_some_iff.mp h
  refine Sm_gr K (eo ek_M_wears (i := 1) rfl) e_a1 ?_
  refine Sm_run K ek_M_wears 2 1 rfl ?_
  obtain ⟨v2, e_v2, h⟩ := Option.bind_eq_some_iff.mp h
  refine Sm_rd K (eok_i (eo ek_M_wears (i := 3) rfl) rfl) e_v2 ?_
  refine Sm_run K ek_M_wears 4 1 rfl ?_
  refine Sm_irem K (eok_i (eo ek_M_wears (i := 5) rfl) rfl) (by decide) ?_
  refine Sm_run K ek_M_wears 6 4 rfl ?_
  obtain ⟨o4, e_o4, h⟩ := Option.bind_eq_some_iff.mp h
  obtain ⟨p3, e_p3, h⟩ := Option.bind_eq_some_iff.mp h
  refine Sm_callV K (eok_i (eo ek_M_wears (i := 10) rfl) rfl) cy_M_it im_M_it se_M_it (lgm 871 (by decide +kernel) rfl) ⟨Nat.le_of_ble_eq_true rfl, Nat.le_of_ble_eq_true rfl⟩ (as := [.int x1, .int 0]) (b := t) (st := []) (ob_e e_o4) (by decide) rfl rfl rfl rfl (Nat.le_of_ble_eq_true rfl) ⟨Nat.le_of_ble_eq_true rfl, Nat.le_of_ble_eq_true rfl⟩ (cn_M_it e_p3) ?_
  refine Sm_eq (st1 := .int p3.1 :: []) (nc1 := 0) (ns1 := 0) rfl rfl rfl ?_
  refine Sm_tsw K (eok_d (eo ek_M_wears (i := 11) rfl)) [52, 52, 54, 56, 60, 52] 79 (by decide) (by decide) (by decide) (fun j hj hx => ?_) (fun hx => ?_)
  · have hj : j < 6 := hj
    rcases (show j = 0 ∨ j = 1 ∨ j = 2 ∨ j = 3 ∨ j = 4 ∨ j = 5 by omega) with rfl | rfl | rfl | rfl | rfl | rfl
    · have hc : p3.1 = 1 := Int32.toInt_inj.mp (hx.trans (by decide))
      rw [if_pos hc] at h
      refine Sm_pc (pc1 := 52) rfl ?_
      exact Sm_le (leR_n (leR_n (leR_n leR_nil))) (s_M_wears_52 K hQ _ h)
    · have hc : p3.1 = 2 := Int32.toInt_inj.mp (hx.trans (by decide))
      rw [if_neg (by rw [hc]; decide), if_pos hc] at h
      refine Sm_pc (pc1 := 52) rfl ?_
      exact Sm_le (leR_n (leR_n (leR_n leR_nil))) (s_M_wears_52 K hQ _ h)
    · have hc : p3.1 = 3 := Int32.toInt_inj.mp (hx.trans (by decide))
      rw [if_neg (by rw [hc]; decide), if_neg (by rw [hc]; decide), if_pos hc] at h
      refine Sm_pc (pc1 := 54) rfl ?_
      refine Sm_run K ek_M_wears 14 1 rfl ?_
      obtain rfl := Option.some.inj h
      exact Sm_reti K hQ (eok_i (eo ek_M_wears (i := 15) rfl) rfl)
    · have hc : p3.1 = 4 := Int32.toInt_inj.mp (hx.trans (by decide))
      rw [if_neg (by rw [hc]; decide), if_neg (by rw [hc]; decide), if_neg (by rw [hc]; decide), if_pos hc] at h
      refine Sm_pc (pc1 := 56) rfl ?_
      refine Sm_run K ek_M_wears 16 3 rfl ?_
      obtain rfl := Option.some.inj h
      exact Sm_reti K hQ (eok_i (eo ek_M_wears (i := 19) rfl) rfl)
    · have hc : p3.1 = 5 := Int32.toInt_inj.mp (hx.trans (by decide))
      rw [if_neg (by rw [hc]; decide), if_neg (by rw [hc]; decide), if_neg (by rw [hc]; decide), if_neg (by rw [hc]; decide), if_pos hc] at h
      refine Sm_pc (pc1 := 60) rfl ?_
      refine Sm_run K ek_M_wears 20 4 rfl ?_
      obtain ⟨o6, e_o6, h⟩ := Option.bind_eq_some_iff.mp h
      obtain ⟨p5, e_p5, h⟩ := Option.bind_eq_some_iff.mp h
      refine Sm_callV K (eok_i (eo ek_M_wears (i := 24) rfl) rfl) cy_M_it im_M_it se_M_it (lgm 871 (by decide +kernel) rfl) ⟨Nat.le_of_ble_eq_true rfl, Nat.le_of_ble_eq_true rfl⟩ (as := [.int x1, .int 1]) (b := t) (st := [.ref t]) (ob_e e_o6) (by decide) rfl rfl rfl rfl (Nat.le_of_ble_eq_true rfl) ⟨Nat.le_of_ble_eq_true rfl, Nat.le_of_ble_eq_true rfl⟩ (cn_M_it e_p5) ?_
      refine Sm_eq (st1 := .int p5.1 :: [.ref t]) (nc1 := 0) (ns1 := 0) rfl rfl rfl ?_
      obtain ⟨o8, e_o8, h⟩ := Option.bind_eq_some_iff.mp h
      obtain ⟨p7, e_p7, h⟩ := Option.bind_eq_some_iff.mp h
      refine Sm_callV K (eok_i (eo ek_M_wears (i := 25) rfl) rfl) cy_M_lightAt im_M_lightAt se_M_lightAt (lgm 886 (by decide +kernel) rfl) ⟨Nat.le_of_ble_eq_true rfl, Nat.le_of_ble_eq_true rfl⟩ (as := [.int p5.1]) (b := t) (st := []) (ob_e e_o8) (by decide) rfl rfl rfl rfl (Nat.le_of_ble_eq_true rfl) ⟨Nat.le_of_ble_eq_true rfl, Nat.le_of_ble_eq_true rfl⟩ (cn_M_lightAt e_p7) ?_
      refine Sm_eq (st1 := .int p7.1 :: []) (nc1 := 0) (ns1 := 0) rfl rfl rfl ?_
      refine Sm_if_le K (eo ek_M_wears (i := 26) rfl) (fun c9 => ?_) (fun c9 => ?_)
      · rw [if_pos c9] at h
        refine Sm_run K ek_M_wears 29 1 rfl ?_
        exact Sm_le (leR_n (leR_n (leR_n leR_nil))) (s_M_wears_78 K hQ _ _ h)
      · rw [if_neg c9] at h
        refine Sm_run K ek_M_wears 27 2 rfl ?_
        exact Sm_le (leR_n (leR_n (leR_n leR_nil))) (s_M_wears_78 K hQ _ _ h)
    · have hc : p3.1 = 6 := Int32.toInt_inj.mp (hx.trans (by decide))
      rw [if_neg (by rw [hc]; decide), if_neg (by rw [hc]; decide), if_neg (by rw [hc]; decide), if_neg (by rw [hc]; decide), if_neg (by rw [hc]; decide), if_pos hc] at h
      refine Sm_pc (pc1 := 52) rfl ?_
      exact Sm_le (leR_n (leR_n (leR_n leR_nil))) (s_M_wears_52 K hQ _ h)
  · rw [if_neg (fun hc => hx 0 (by decide) (by rw [hc]; decide)), if_neg (fun hc => hx 1 (by decide) (by rw [hc]; decide)), if_neg (fun hc => hx 2 (by decide) (by rw [hc]; decide)), if_neg (fun hc => hx 3 (by decide) (by rw [hc]; decide)), if_neg (fun hc => hx 4 (by decide) (by rw [hc]; decide)), if_neg (fun hc => hx 5 (by decide) (by rw [hc]; decide))] at h
    refine Sm_run K ek_M_wears 31 1 rfl ?_
    obtain rfl := Option.some.inj h
    exact Sm_reti K hQ (eok_i (eo ek_M_wears (i := 32) rfl) rfl)
def F_M_wears (t : Nat) (x1 : Int32) (w : A_W) : Option (Int32 × A_W) := F_M_wears_0 t x1 w
theorem cn_M_wears {G : Gx} {t : Nat} {x1 : Int32} {w : A_W} {res : Int32 × A_W} (h : F_M_wears t x1 w = some res) : Cn G y_M_wears c_M_wears 3 (some .int) rm_M_wears [.ref t, .int x1] w (some (.int res.1)) res.2 :=
  Cn_of (own := 4) cy_M_wears rfl rfl (Nat.le_of_ble_eq_true rfl) rfl (fun X K _ hQ => Sm_le (leR_s (leR_s (leR_n leR_nil))) (s_M_wears_0 K hQ _ _ _ h))
/-! EveningCloakModel.costs(I)I -/
abbrev c_M_costs : ByteArray := prog_6_method_22_code
def y_M_costs : MethodName := ⟨"EveningCloakModel", "costs", "(I)I"⟩
def rm_M_costs : Room := { frames := 1, cells := 0, slots := 0, locals := 22 }
theorem cy_M_costs : Cy y_M_costs c_M_costs 2 (some .int) 1 := ⟨lgm 897 (by decide +kernel) rfl, lgm 73 (by decide +kernel) rfl, by decide +kernel, by decide +kernel⟩
theorem im_M_costs : Cond.instanceMethod y_M_costs ∈ lg := lgm 896 (by decide +kernel) rfl
theorem se_M_costs : Cond.selects y_M_costs.cls y_M_costs y_M_costs ∈ lg := lgm 31 (by decide +kernel) rfl
def e_M_costs : List Ent := [
  (0, .aload_n 0, 1, 1, .null, 0, 0, 0),
  (1, .iload_n 1, 1, 2, .null, 0, 0, 0),
  (2, .iconst 0, 1, 3, .int 0, 0, 0, 0),
  (3, .invokevirtual 44, 3, 6, .null, 0, 0, 0),
  (6, .tableswitch 44 1 6 #[38, 40, 38, 38, 40, 42], 38, 44, .null, 0, 0, 0),
  (44, .iconst 0, 1, 45, .int 0, 0, 0, 0),
  (45, .ireturn, 1, 46, .null, 0, 0, 0),
  (46, .iconst 1, 1, 47, .int 1, 0, 0, 0),
  (47, .ireturn, 1, 48, .null, 0, 0, 0),
  (48, .iconst 3, 1, 49, .int 3, 0, 0, 0),
  (49, .ireturn, 1, 50, .null, 0, 0, 0),
  (50, .iconst 2, 1, 51, .int 2, 0, 0, 0),
  (51, .ireturn, 1, 52, .null, 0, 0, 0)]
set_option maxRecDepth 100000 in
theorem ek_M_costs : e_M_costs.all (eok 4 c_M_costs) = true := by decide +kernel
def F_M_costs_44 (w : A_W) : Option (Int32 × A_W) :=
  some (0, w)
def F_M_costs_46 (w : A_W) : Option (Int32 × A_W) :=
  some (1, w)
def F_M_costs_0 (t : Nat) (x1 : Int32) (w : A_W) : Option (Int32 × A_W) :=
  (ob w t 4).bind fun o2 =>
  (F_M_it t x1 0 w).bind fun p1 =>
  if p1.1 = 1 then
    F_M_costs_44 p1.2
  else if p1.1 = 2 then
    F_M_costs_46 p1.2
  else if p1.1 = 3 then
    F_M_costs_44 p1.2
  else if p1.1 = 4 then
    F_M_costs_44 p1.2
  else if p1.1 = 5 then
    F_M_costs_46 p1.2
  else if p1.1 = 6 then
    some (3, p1.2)
  else
    some (2, p1.2)
set_option maxHeartbeats 4000000 in
set_option maxRecDepth 100000 in
theorem s_M_costs_44 {G : Gx} {X : Cx} {res : Int32 × A_W} (K : Ok G X 4 c_M_costs 2 (some .int) rm_M_costs) (hQ : QQ G X (some (.int res.1)) res.2 0 0) (w : A_W) (h : F_M_costs_44 w = some res) : Sm G X w 0 0 [none, none] [] 44 := by
  unfold F_M_costs_44 at h
  refine Sm_run K ek_M_costs 5 1 rfl ?_
  obtain rfl := Option.some.inj h
  exact Sm_reti K hQ (eok_i (eo ek_M_costs (i := 6) rfl) rfl)
set_option maxHeartbeats 4000000 in
set_option maxRecDepth 100000 in
theorem s_M_costs_46 {G : Gx} {X : Cx} {res : Int32 × A_W} (K : Ok G X 4 c_M_costs 2 (some .int) rm_M_costs) (hQ : QQ G X (some (.int res.1)) res.2 0 0) (w : A_W) (h : F_M_costs_46 w = some res) : Sm G X w 0 0 [none, none] [] 46 := by
  unfold F_M_costs_46 at h
  refine Sm_run K ek_M_costs 7 1 rfl ?_
  obtain rfl := Option.some.inj h
  exact Sm_reti K hQ (eok_i (eo ek_M_costs (i := 8) rfl) rfl)
set_option maxHeartbeats 4000000 in
set_option maxRecDepth 100000 in
theorem s_M_costs_0 {G : Gx} {X : Cx} {res : Int32 × A_W} (K : Ok G X 4 c_M_costs 2 (some .int) rm_M_costs) (hQ : QQ G X (some (.int res.1)) res.2 0 0) (t : Nat) (x1 : Int32) (w : A_W) (h : F_M_costs_0 t x1 w = some res) : Sm G X w 0 0 [some (.ref t), some (.int x1)] [] 0 := by
  unfold F_M_costs_0 at h
  refine Sm_run K ek_M_costs 0 3 rfl ?_
  obtain ⟨o2, e_o2, h⟩ := Option.bind_eq_some_iff.mp h
  obtain ⟨p1, e_p1, h⟩ := Option.bind_eq_some_iff.mp h
  refine Sm_callV K (eok_i (eo ek_M_costs (i := 3) rfl) rfl) cy_M_it im_M_it se_M_it (lgm 871 (by decide +kernel) rfl) ⟨Nat.le_of_ble_eq_true rfl, Nat.le_of_ble_eq_true rfl⟩ (as := [.int x1, .int 0]) (b := t) (st := []) (ob_e e_o2) (by decide) rfl rfl rfl rfl (Nat.le_of_ble_eq_true rfl) ⟨Nat.le_of_ble_eq_true rfl, Nat.le_of_ble_eq_true rfl⟩ (cn_M_it e_p1) ?_
  refine Sm_eq (st1 := .int p1.1 :: []) (nc1 := 0) (ns1 := 0) rfl rfl rfl ?_
  refine Sm_tsw K (eok_d (eo ek_M_costs (i := 4) rfl)) [44, 46, 44, 44, 46, 48] 50 (by decide) (by decide) (by decide) (fun j hj hx => ?_) (fun hx => ?_)
  · have hj : j < 6 := hj
    rcases (show j = 0 ∨ j = 1 ∨ j = 2 ∨ j = 3 ∨ j = 4 ∨ j = 5 by omega) with rfl | rfl | rfl | rfl | rfl | rfl
    · have hc : p1.1 = 1 := Int32.toInt_inj.mp (hx.trans (by decide))
      rw [if_pos hc] at h
      refine Sm_pc (pc1 := 44) rfl ?_
      exact Sm_le (leR_n (leR_n leR_nil)) (s_M_costs_44 K hQ _ h)
    · have hc : p1.1 = 2 := Int32.toInt_inj.mp (hx.trans (by decide))
      rw [if_neg (by rw [hc]; decide), if_pos hc] at h
      refine Sm_pc (pc1 := 46) rfl ?_
      exact Sm_le (leR_n (leR_n leR_nil)) (s_M_costs_46 K hQ _ h)
    · have hc : p1.1 = 3 := Int32.toInt_inj.mp (hx.trans (by decide))
      rw [if_neg (by rw [hc]; decide), if_neg (by rw [hc]; decide), if_pos hc] at h
      refine Sm_pc (pc1 := 44) rfl ?_
      exact Sm_le (leR_n (leR_n leR_nil)) (s_M_costs_44 K hQ _ h)
    · have hc : p1.1 = 4 := Int32.toInt_inj.mp (hx.trans (by decide))
      rw [if_neg (by rw [hc]; decide), if_neg (by rw [hc]; decide), if_neg (by rw [hc]; decide), if_pos hc] at h
      refine Sm_pc (pc1 := 44) rfl ?_
      exact Sm_le (leR_n (leR_n leR_nil)) (s_M_costs_44 K hQ _ h)
    · have hc : p1.1 = 5 := Int32.toInt_inj.mp (hx.trans (by decide))
      rw [if_neg (by rw [hc]; decide), if_neg (by rw [hc]; decide), if_neg (by rw [hc]; decide), if_neg (by rw [hc]; decide), if_pos hc] at h
      refine Sm_pc (pc1 := 46) rfl ?_
      exact Sm_le (leR_n (leR_n leR_nil)) (s_M_costs_46 K hQ _ h)
    · have hc : p1.1 = 6 := Int32.toInt_inj.mp (hx.trans (by decide))
      rw [if_neg (by rw [hc]; decide), if_neg (by rw [hc]; decide), if_neg (by rw [hc]; decide), if_neg (by rw [hc]; decide), if_neg (by rw [hc]; decide), if_pos hc] at h
      refine Sm_pc (pc1 := 48) rfl ?_
      refine Sm_run K ek_M_costs 9 1 rfl ?_
      obtain rfl := Option.some.inj h
      exact Sm_reti K hQ (eok_i (eo ek_M_costs (i := 10) rfl) rfl)
  · rw [if_neg (fun hc => hx 0 (by decide) (by rw [hc]; decide)), if_neg (fun hc => hx 1 (by decide) (by rw [hc]; decide)), if_neg (fun hc => hx 2 (by decide) (by rw [hc]; decide)), if_neg (fun hc => hx 3 (by decide) (by rw [hc]; decide)), if_neg (fun hc => hx 4 (by decide) (by rw [hc]; decide)), if_neg (fun hc => hx 5 (by decide) (by rw [hc]; decide))] at h
    refine Sm_run K ek_M_costs 11 1 rfl ?_
    obtain rfl := Option.some.inj h
    exact Sm_reti K hQ (eok_i (eo ek_M_costs (i := 12) rfl) rfl)
def F_M_costs (t : Nat) (x1 : Int32) (w : A_W) : Option (Int32 × A_W) := F_M_costs_0 t x1 w
theorem cn_M_costs {G : Gx} {t : Nat} {x1 : Int32} {w : A_W} {res : Int32 × A_W} (h : F_M_costs t x1 w = some res) : Cn G y_M_costs c_M_costs 2 (some .int) rm_M_costs [.ref t, .int x1] w (some (.int res.1)) res.2 :=
  Cn_of (own := 4) cy_M_costs rfl rfl (Nat.le_of_ble_eq_true rfl) rfl (fun X K _ hQ => Sm_le (leR_s (leR_s leR_nil)) (s_M_costs_0 K hQ _ _ _ h))
/-! EveningCloakModel.stand(III)I -/
abbrev c_M_stand : ByteArray := prog_6_method_23_code
def y_M_stand : MethodName := ⟨"EveningCloakModel", "stand", "(III)I"⟩
def rm_M_stand : Room := { frames := 2, cells := 0, slots := 0, locals := 42 }
theorem cy_M_stand : Cy y_M_stand c_M_stand 4 (some .int) 3 := ⟨lgm 811 (by decide +kernel) rfl, lgm 73 (by decide +kernel) rfl, by decide +kernel, by decide +kernel⟩
theorem im_M_stand : Cond.instanceMethod y_M_stand ∈ lg := lgm 809 (by decide +kernel) rfl
theorem se_M_stand : Cond.selects y_M_stand.cls y_M_stand y_M_stand ∈ lg := lgm 810 (by decide +kernel) rfl
def e_M_stand : List Ent := [
  (0, .iload_n 1, 1, 1, .null, 0, 0, 0),
  (1, .invokestatic 65, 3, 4, .null, 0, 0, 0),
  (4, .ifCond .eq 35, 3, 39, .null, 0, 0, 0),
  (7, .iload_n 2, 1, 8, .null, 0, 0, 0),
  (8, .iconst 0, 1, 9, .int 0, 0, 0, 0),
  (9, .iconst 5, 1, 10, .int 5, 0, 0, 0),
  (10, .invokestatic 40, 3, 13, .null, 0, 0, 0),
  (13, .ifCond .eq 26, 3, 39, .null, 0, 0, 0),
  (16, .iload_n 3, 1, 17, .null, 0, 0, 0),
  (17, .invokestatic 68, 3, 20, .null, 0, 0, 0),
  (20, .ifCond .eq 19, 3, 39, .null, 0, 0, 0),
  (23, .aload_n 0, 1, 24, .null, 0, 0, 0),
  (24, .iconst 5, 1, 25, .int 5, 0, 0, 0),
  (25, .iload_n 1, 1, 26, .null, 0, 0, 0),
  (26, .iadd, 1, 27, .null, 0, 0, 0),
  (27, .bipush 100, 2, 29, .int 100, 0, 0, 0),
  (29, .iload_n 2, 1, 30, .null, 0, 0, 0),
  (30, .imul, 1, 31, .null, 0, 0, 0),
  (31, .iload_n 3, 1, 32, .null, 0, 0, 0),
  (32, .iadd, 1, 33, .null, 0, 0, 0),
  (33, .invokevirtual 71, 3, 36, .null, 0, 0, 0),
  (36, .goto 9, 3, 45, .null, 0, 0, 0),
  (39, .aload_n 0, 1, 40, .null, 0, 0, 0),
  (40, .ldc 34, 2, 42, .int (-1000001), 0, 0, 825),
  (42, .invokevirtual 36, 3, 45, .null, 0, 0, 0),
  (45, .ireturn, 1, 46, .null, 0, 0, 0)]
set_option maxRecDepth 100000 in
theorem ek_M_stand : e_M_stand.all (eok 4 c_M_stand) = true := by decide +kernel
def F_M_stand_45 (y0 : Int32) (w : A_W) : Option (Int32 × A_W) :=
  some (y0, w)
def F_M_stand_39 (t : Nat) (w : A_W) : Option (Int32 × A_W) :=
  (ob w t 4).bind fun o2 =>
  (F_M_finds t (-1000001) w).bind fun p1 =>
  F_M_stand_45 p1.1 p1.2
def F_M_stand_0 (t : Nat) (x1 : Int32) (x2 : Int32) (x3 : Int32) (w : A_W) : Option (Int32 × A_W) :=
  (F_M_isPlace x1 w).bind fun p1 =>
  if p1.1 = 0 then
    F_M_stand_39 t p1.2
  else
    (F_M_in x2 0 5 p1.2).bind fun p3 =>
    if p3.1 = 0 then
      F_M_stand_39 t p3.2
    else
      (F_M_isHanger x3 p3.2).bind fun p5 =>
      if p5.1 = 0 then
        F_M_stand_39 t p5.2
      else
        (ob p5.2 t 4).bind fun o8 =>
        (F_M_becomes t (5 + x1) ((100 * x2) + x3) p5.2).bind fun p7 =>
        F_M_stand_45 p7.1 p7.2
set_option maxHeartbeats 4000000 in
set_option maxRecDepth 100000 in
theorem s_M_stand_45 {G : Gx} {X : Cx} {res : Int32 × A_W} (K : Ok G X 4 c_M_stand 4 (some .int) rm_M_stand) (hQ : QQ G X (some (.int res.1)) res.2 0 0) (y0 : Int32) (w : A_W) (h : F_M_stand_45 y0 w = some res) : Sm G X w 0 0 [none, none, none, none] [.int y0] 45 := by
  unfold F_M_stand_45 at h
  obtain rfl := Option.some.inj h
  exact Sm_reti K hQ (eok_i (eo ek_M_stand (i := 25) rfl) rfl)
set_option maxHeartbeats 4000000 in
set_option maxRecDepth 100000 in
theorem s_M_stand_39 {G : Gx} {X : Cx} {res : Int32 × A_W} (K : Ok G X 4 c_M_stand 4 (some .int) rm_M_stand) (hQ : QQ G X (some (.int res.1)) res.2 0 0) (t : Nat) (w : A_W) (h : F_M_stand_39 t w = some res) : Sm G X w 0 0 [some (.ref t), none, none, none] [] 39 := by
  unfold F_M_stand_39 at h
  refine Sm_run K ek_M_stand 22 2 rfl ?_
  obtain ⟨o2, e_o2, h⟩ := Option.bind_eq_some_iff.mp h
  obtain ⟨p1, e_p1, h⟩ := Option.bind_eq_some_iff.mp h
  refine Sm_callV K (eok_i (eo ek_M_stand (i := 24) rfl) rfl) cy_M_finds im_M_finds se_M_finds (lgm 826 (by decide +kernel) rfl) ⟨Nat.le_of_ble_eq_true rfl, Nat.le_of_ble_eq_true rfl⟩ (as := [.int (-1000001)]) (b := t) (st := []) (ob_e e_o2) (by decide) rfl rfl rfl rfl (Nat.le_of_ble_eq_true rfl) ⟨Nat.le_of_ble_eq_true rfl, Nat.le_of_ble_eq_true rfl⟩ (cn_M_finds e_p1) ?_
  refine Sm_eq (st1 := .int p1.1 :: []) (nc1 := 0) (ns1 := 0) rfl rfl rfl ?_
  exact Sm_le (leR_n (leR_n (leR_n (leR_n leR_nil)))) (s_M_stand_45 K hQ _ _ h)
set_option maxHeartbeats 4000000 in
set_option maxRecDepth 100000 in
theorem s_M_stand_0 {G : Gx} {X : Cx} {res : Int32 × A_W} (K : Ok G X 4 c_M_stand 4 (some .int) rm_M_stand) (hQ : QQ G X (some (.int res.1)) res.2 0 0) (t : Nat) (x1 : Int32) (x2 : Int32) (x3 : Int32) (w : A_W) (h : F_M_stand_0 t x1 x2 x3 w = some res) : Sm G X w 0 0 [some (.ref t), some (.int x1), some (.int x2), some (.int x3)] [] 0 := by
  unfold F_M_stand_0 at h
  refine Sm_run K ek_M_stand 0 1 rfl ?_
  obtain ⟨p1, e_p1, h⟩ := Option.bind_eq_some_iff.mp h
  refine Sm_callS K (eok_i (eo ek_M_stand (i := 1) rfl) rfl) cy_M_isPlace st_M_isPlace (lgm 812 (by decide +kernel) rfl) ⟨Nat.le_of_ble_eq_true rfl, Nat.le_of_ble_eq_true rfl⟩ (as := [.int x1]) (st := []) rfl rfl rfl (Nat.le_of_ble_eq_true rfl) ⟨Nat.le_of_ble_eq_true rfl, Nat.le_of_ble_eq_true rfl⟩ (cn_M_isPlace e_p1) ?_
  refine Sm_eq (st1 := .int p1.1 :: []) (nc1 := 0) (ns1 := 0) rfl rfl rfl ?_
  refine Sm_if_eq K (eo ek_M_stand (i := 2) rfl) (fun c2 => ?_) (fun c2 => ?_)
  · rw [if_pos c2] at h
    exact Sm_le (leR_s (leR_n (leR_n (leR_n leR_nil)))) (s_M_stand_39 K hQ _ _ h)
  · rw [if_neg c2] at h
    refine Sm_run K ek_M_stand 3 3 rfl ?_
    obtain ⟨p3, e_p3, h⟩ := Option.bind_eq_some_iff.mp h
    refine Sm_callS K (eok_i (eo ek_M_stand (i := 6) rfl) rfl) cy_M_in st_M_in (lgm 815 (by decide +kernel) rfl) ⟨Nat.le_of_ble_eq_true rfl, Nat.le_of_ble_eq_true rfl⟩ (as := [.int x2, .int 0, .int 5]) (st := []) rfl rfl rfl (Nat.le_of_ble_eq_true rfl) ⟨Nat.le_of_ble_eq_true rfl, Nat.le_of_ble_eq_true rfl⟩ (cn_M_in e_p3) ?_
    refine Sm_eq (st1 := .int p3.1 :: []) (nc1 := 0) (ns1 := 0) rfl rfl rfl ?_
    refine Sm_if_eq K (eo ek_M_stand (i := 7) rfl) (fun c4 => ?_) (fun c4 => ?_)
    · rw [if_pos c4] at h
      exact Sm_le (leR_s (leR_n (leR_n (leR_n leR_nil)))) (s_M_stand_39 K hQ _ _ h)
    · rw [if_neg c4] at h
      refine Sm_run K ek_M_stand 8 1 rfl ?_
      obtain ⟨p5, e_p5, h⟩ := Option.bind_eq_some_iff.mp h
      refine Sm_callS K (eok_i (eo ek_M_stand (i := 9) rfl) rfl) cy_M_isHanger st_M_isHanger (lgm 818 (by decide +kernel) rfl) ⟨Nat.le_of_ble_eq_true rfl, Nat.le_of_ble_eq_true rfl⟩ (as := [.int x3]) (st := []) rfl rfl rfl (Nat.le_of_ble_eq_true rfl) ⟨Nat.le_of_ble_eq_true rfl, Nat.le_of_ble_eq_true rfl⟩ (cn_M_isHanger e_p5) ?_
      refine Sm_eq (st1 := .int p5.1 :: []) (nc1 := 0) (ns1 := 0) rfl rfl rfl ?_
      refine Sm_if_eq K (eo ek_M_stand (i := 10) rfl) (fun c6 => ?_) (fun c6 => ?_)
      · rw [if_pos c6] at h
        exact Sm_le (leR_s (leR_n (leR_n (leR_n leR_nil)))) (s_M_stand_39 K hQ _ _ h)
      · rw [if_neg c6] at h
        refine Sm_run K ek_M_stand 11 9 rfl ?_
        obtain ⟨o8, e_o8, h⟩ := Option.bind_eq_some_iff.mp h
        obtain ⟨p7, e_p7, h⟩ := Option.bind_eq_some_iff.mp h
        refine Sm_callV K (eok_i (eo ek_M_stand (i := 20) rfl) rfl) cy_M_becomes im_M_becomes se_M_becomes (lgm 821 (by decide +kernel) rfl) ⟨Nat.le_of_ble_eq_true rfl, Nat.le_of_ble_eq_true rfl⟩ (as := [.int (5 + x1), .int ((100 * x2) + x3)]) (b := t) (st := []) (ob_e e_o8) (by decide) rfl rfl rfl rfl (Nat.le_of_ble_eq_true rfl) ⟨Nat.le_of_ble_eq_true rfl, Nat.le_of_ble_eq_true rfl⟩ (cn_M_becomes e_p7) ?_
        refine Sm_eq (st1 := .int p7.1 :: []) (nc1 := 0) (ns1 := 0) rfl rfl rfl ?_
        refine Sm_run K ek_M_stand 21 1 rfl ?_
        exact Sm_le (leR_n (leR_n (leR_n (leR_n leR_nil)))) (s_M_stand_45 K hQ _ _ h)
def F_M_stand (t : Nat) (x1 : Int32) (x2 : Int32) (x3 : Int32) (w : A_W) : Option (Int32 × A_W) := F_M_stand_0 t x1 x2 x3 w
theorem cn_M_stand {G : Gx} {t : Nat} {x1 : Int32} {x2 : Int32} {x3 : Int32} {w : A_W} {res : Int32 × A_W} (h : F_M_stand t x1 x2 x3 w = some res) : Cn G y_M_stand c_M_stand 4 (some .int) rm_M_stand [.ref t, .int x1, .int x2, .int x3] w (some (.int res.1)) res.2 :=
  Cn_of (own := 4) cy_M_stand rfl rfl (Nat.le_of_ble_eq_true rfl) rfl (fun X K _ hQ => Sm_le (leR_s (leR_s (leR_s (leR_s leR_nil)))) (s_M_stand_0 K hQ _ _ _ _ _ h))
/-! EveningCloakModel.listed(I)I -/
abbrev c_M_listed : ByteArray := prog_6_method_24_code
def y_M_listed : MethodName := ⟨"EveningCloakModel", "listed", "(I)I"⟩
def rm_M_listed : Room := { frames := 2, cells := 0, slots := 0, locals := 42 }
theorem cy_M_listed : Cy y_M_listed c_M_listed 2 (some .int) 1 := ⟨lgm 833 (by decide +kernel) rfl, lgm 73 (by decide +kernel) rfl, by decide +kernel, by decide +kernel⟩
theorem im_M_listed : Cond.instanceMethod y_M_listed ∈ lg := lgm 831 (by decide +kernel) rfl
theorem se_M_listed : Cond.selects y_M_listed.cls y_M_listed y_M_listed ∈ lg := lgm 832 (by decide +kernel) rfl
def e_M_listed : List Ent := [
  (0, .iload_n 1, 1, 1, .null, 0, 0, 0),
  (1, .invokestatic 65, 3, 4, .null, 0, 0, 0),
  (4, .ifCond .eq 14, 3, 18, .null, 0, 0, 0),
  (7, .aload_n 0, 1, 8, .null, 0, 0, 0),
  (8, .getfield 9, 3, 11, .null, 4, 0, 762),
  (11, .iconst 5, 1, 12, .int 5, 0, 0, 0),
  (12, .iload_n 1, 1, 13, .null, 0, 0, 0),
  (13, .iadd, 1, 14, .null, 0, 0, 0),
  (14, .iaload, 1, 15, .null, 0, 0, 0),
  (15, .goto 9, 3, 24, .null, 0, 0, 0),
  (18, .aload_n 0, 1, 19, .null, 0, 0, 0),
  (19, .ldc 34, 2, 21, .int (-1000001), 0, 0, 825),
  (21, .invokevirtual 36, 3, 24, .null, 0, 0, 0),
  (24, .ireturn, 1, 25, .null, 0, 0, 0)]
set_option maxRecDepth 100000 in
theorem ek_M_listed : e_M_listed.all (eok 4 c_M_listed) = true := by decide +kernel
def F_M_listed_24 (y0 : Int32) (w : A_W) : Option (Int32 × A_W) :=
  some (y0, w)
def F_M_listed_0 (t : Nat) (x1 : Int32) (w : A_W) : Option (Int32 × A_W) :=
  (F_M_isPlace x1 w).bind fun p1 =>
  if p1.1 = 0 then
    (ob p1.2 t 4).bind fun o4 =>
    (F_M_finds t (-1000001) p1.2).bind fun p3 =>
    F_M_listed_24 p3.1 p3.2
  else
    (gr p1.2 t 4 0).bind fun a5 =>
    (rd p1.2 a5 (5 + x1)).bind fun v6 =>
    F_M_listed_24 v6 p1.2
set_option maxHeartbeats 4000000 in
set_option maxRecDepth 100000 in
theorem s_M_listed_24 {G : Gx} {X : Cx} {res : Int32 × A_W} (K : Ok G X 4 c_M_listed 2 (some .int) rm_M_listed) (hQ : QQ G X (some (.int res.1)) res.2 0 0) (y0 : Int32) (w : A_W) (h : F_M_listed_24 y0 w = some res) : Sm G X w 0 0 [none, none] [.int y0] 24 := by
  unfold F_M_listed_24 at h
  obtain rfl := Option.some.inj h
  exact Sm_reti K hQ (eok_i (eo ek_M_listed (i := 13) rfl) rfl)
set_option maxHeartbeats 4000000 in
set_option maxRecDepth 100000 in
theorem s_M_listed_0 {G : Gx} {X : Cx} {res : Int32 × A_W} (K : Ok G X 4 c_M_listed 2 (some .int) rm_M_listed) (hQ : QQ G X (some (.int res.1)) res.2 0 0) (t : Nat) (x1 : Int32) (w : A_W) (h : F_M_listed_0 t x1 w = some res) : Sm G X w 0 0 [some (.ref t), some (.int x1)] [] 0 := by
  unfold F_M_listed_0 at h
  refine Sm_run K ek_M_listed 0 1 rfl ?_
  obtain ⟨p1, e_p1, h⟩ := Option.bind_eq_some_iff.mp h
  refine Sm_callS K (eok_i (eo ek_M_listed (i := 1) rfl) rfl) cy_M_isPlace st_M_isPlace (lgm 812 (by decide +kernel) rfl) ⟨Nat.le_of_ble_eq_true rfl, Nat.le_of_ble_eq_true rfl⟩ (as := [.int x1]) (st := []) rfl rfl rfl (Nat.le_of_ble_eq_true rfl) ⟨Nat.le_of_ble_eq_true rfl, Nat.le_of_ble_eq_true rfl⟩ (cn_M_isPlace e_p1) ?_
  refine Sm_eq (st1 := .int p1.1 :: []) (nc1 := 0) (ns1 := 0) rfl rfl rfl ?_
  refine Sm_if_eq K (eo ek_M_listed (i := 2) rfl) (fun c2 => ?_) (fun c2 => ?_)
  · rw [if_pos c2] at h
    refine Sm_run K ek_M_listed 10 2 rfl ?_
    obtain ⟨o4, e_o4, h⟩ := Option.bind_eq_some_iff.mp h
    obtain ⟨p3, e_p3, h⟩ := Option.bind_eq_some_iff.mp h
    refine Sm_callV K (eok_i (eo ek_M_listed (i := 12) rfl) rfl) cy_M_finds im_M_finds se_M_finds (lgm 826 (by decide +kernel) rfl) ⟨Nat.le_of_ble_eq_true rfl, Nat.le_of_ble_eq_true rfl⟩ (as := [.int (-1000001)]) (b := t) (st := []) (ob_e e_o4) (by decide) rfl rfl rfl rfl (Nat.le_of_ble_eq_true rfl) ⟨Nat.le_of_ble_eq_true rfl, Nat.le_of_ble_eq_true rfl⟩ (cn_M_finds e_p3) ?_
    refine Sm_eq (st1 := .int p3.1 :: []) (nc1 := 0) (ns1 := 0) rfl rfl rfl ?_
    exact Sm_le (leR_n (leR_n leR_nil)) (s_M_listed_24 K hQ _ _ h)
  · rw [if_neg c2] at h
    refine Sm_run K ek_M_listed 3 1 rfl ?_
    obtain ⟨a5, e_a5, h⟩ := Option.bind_eq_some_iff.mp h
    refine Sm_gr K (eo ek_M_listed (i := 4) rfl) e_a5 ?_
    refine Sm_run K ek_M_listed 5 3 rfl ?_
    obtain ⟨v6, e_v6, h⟩ := Option.bind_eq_some_iff.mp h
    refine Sm_rd K (eok_i (eo ek_M_listed (i := 8) rfl) rfl) e_v6 ?_
    refine Sm_run K ek_M_listed 9 1 rfl ?_
    exact Sm_le (leR_n (leR_n leR_nil)) (s_M_listed_24 K hQ _ _ h)
def F_M_listed (t : Nat) (x1 : Int32) (w : A_W) : Option (Int32 × A_W) := F_M_listed_0 t x1 w
theorem cn_M_listed {G : Gx} {t : Nat} {x1 : Int32} {w : A_W} {res : Int32 × A_W} (h : F_M_listed t x1 w = some res) : Cn G y_M_listed c_M_listed 2 (some .int) rm_M_listed [.ref t, .int x1] w (some (.int res.1)) res.2 :=
  Cn_of (own := 4) cy_M_listed rfl rfl (Nat.le_of_ble_eq_true rfl) rfl (fun X K _ hQ => Sm_le (leR_s (leR_s leR_nil)) (s_M_listed_0 K hQ _ _ _ h))
