/-! EveningCloak.setAsTold(ILEveningCloak$Sheet;I)I -/
abbrev c_K_setAsTold : ByteArray := prog_1_method_61_code
def y_K_setAsTold : MethodName := ⟨"EveningCloak", "setAsTold", "(ILEveningCloak$Sheet;I)I"⟩
def rm_K_setAsTold : Room := { frames := 6, cells := 0, slots := 0, locals := 137 }
theorem cy_K_setAsTold : Cy y_K_setAsTold c_K_setAsTold 7 (some .int) 3 := ⟨lgm 518 (by decide +kernel) rfl, lgm 68 (by decide +kernel) rfl, by decide +kernel, by decide +kernel⟩
theorem im_K_setAsTold : Cond.instanceMethod y_K_setAsTold ∈ lg := lgm 517 (by decide +kernel) rfl
theorem se_K_setAsTold : Cond.selects y_K_setAsTold.cls y_K_setAsTold y_K_setAsTold ∈ lg := lgm 7 (by decide +kernel) rfl
def e_K_setAsTold : List Ent := [
  (0, .iload_n 1, 1, 1, .null, 0, 0, 0),
  (1, .iconst 2, 1, 2, .int 2, 0, 0, 0),
  (2, .if_icmp .ne 8, 3, 10, .null, 0, 0, 0),
  (5, .bipush 7, 2, 7, .int 7, 0, 0, 0),
  (7, .goto 5, 3, 12, .null, 0, 0, 0),
  (10, .bipush 16, 2, 12, .int 16, 0, 0, 0),
  (12, .istore 4, 2, 14, .null, 0, 0, 0),
  (14, .iconst 0, 1, 15, .int 0, 0, 0, 0),
  (15, .istore 5, 2, 17, .null, 0, 0, 0),
  (17, .iconst 0, 1, 18, .int 0, 0, 0, 0),
  (18, .istore 6, 2, 20, .null, 0, 0, 0),
  (20, .iload 6, 2, 22, .null, 0, 0, 0),
  (22, .iload 4, 2, 24, .null, 0, 0, 0),
  (24, .if_icmp .ge 48, 3, 72, .null, 0, 0, 0),
  (27, .aload_n 0, 1, 28, .null, 0, 0, 0),
  (28, .getfield 16, 3, 31, .null, 0, 1, 218),
  (31, .aload_n 0, 1, 32, .null, 0, 0, 0),
  (32, .getfield 12, 3, 35, .null, 0, 0, 217),
  (35, .invokevirtual 187, 3, 38, .null, 0, 0, 0),
  (38, .aload_n 0, 1, 39, .null, 0, 0, 0),
  (39, .getfield 16, 3, 42, .null, 0, 1, 218),
  (42, .iload_n 1, 1, 43, .null, 0, 0, 0),
  (43, .iload_n 3, 1, 44, .null, 0, 0, 0),
  (44, .iload 6, 2, 46, .null, 0, 0, 0),
  (46, .invokevirtual 264, 3, 49, .null, 0, 0, 0),
  (49, .aload_n 0, 1, 50, .null, 0, 0, 0),
  (50, .aload_n 2, 1, 51, .null, 0, 0, 0),
  (51, .invokevirtual 280, 3, 54, .null, 0, 0, 0),
  (54, .ifCond .eq 12, 3, 66, .null, 0, 0, 0),
  (57, .iload 5, 2, 59, .null, 0, 0, 0),
  (59, .iconst 1, 1, 60, .int 1, 0, 0, 0),
  (60, .iload 6, 2, 62, .null, 0, 0, 0),
  (62, .ishl, 1, 63, .null, 0, 0, 0),
  (63, .ior, 1, 64, .null, 0, 0, 0),
  (64, .istore 5, 2, 66, .null, 0, 0, 0),
  (66, .iinc 6 1, 3, 69, .int 1, 0, 0, 0),
  (69, .goto (-49), 3, 20, .null, 0, 0, 0),
  (72, .iload 5, 2, 74, .null, 0, 0, 0),
  (74, .ireturn, 1, 75, .null, 0, 0, 0)]
set_option maxRecDepth 100000 in
theorem ek_K_setAsTold : e_K_setAsTold.all (eok 0 c_K_setAsTold) = true := by decide +kernel
def F_K_setAsTold_66 (k20 : Nat → Int32 → Nat → Int32 → Int32 → Int32 → Int32 → A_W → Option (Int32 × A_W)) (t : Nat) (x1 : Int32) (x2 : Nat) (x3 : Int32) (x4 : Int32) (x5 : Int32) (x6 : Int32) (w : A_W) : Option (Int32 × A_W) :=
  k20 t x1 x2 x3 x4 x5 (x6 + 1) w
def F_K_setAsTold_20 : Nat → Nat → Int32 → Nat → Int32 → Int32 → Int32 → Int32 → A_W → Option (Int32 × A_W)
  | 0, _, _, _, _, _, _, _, _ => none
  | n + 1, t, x1, x2, x3, x4, x5, x6, w =>
    if x4 ≤ x6 then
      some (x5, w)
    else
      (gr w t 0 1).bind fun a2 =>
      (gr w t 0 0).bind fun a3 =>
      (ob w a2 2).bind fun o5 =>
      (F_R_become a2 a3 w).bind fun p4 =>
      (gr p4 t 0 1).bind fun a6 =>
      (ob p4 a6 2).bind fun o8 =>
      (F_R_vary a6 x1 x3 x6 p4).bind fun p7 =>
      (ob p7 t 0).bind fun o10 =>
      (F_K_trialIsAsTold t x2 p7).bind fun p9 =>
      if p9.1 = 0 then
        F_K_setAsTold_66 (F_K_setAsTold_20 n) t x1 x2 x3 x4 x5 x6 p9.2
      else
        F_K_setAsTold_66 (F_K_setAsTold_20 n) t x1 x2 x3 x4 (x5 ||| (1 <<< (x6 &&& 31))) x6 p9.2
def F_K_setAsTold_12 (t : Nat) (x1 : Int32) (x2 : Nat) (x3 : Int32) (y0 : Int32) (w : A_W) : Option (Int32 × A_W) :=
  F_K_setAsTold_20 FU t x1 x2 x3 y0 0 0 w
def F_K_setAsTold_0 (t : Nat) (x1 : Int32) (x2 : Nat) (x3 : Int32) (w : A_W) : Option (Int32 × A_W) :=
  if x1 = 2 then
    F_K_setAsTold_12 t x1 x2 x3 7 w
  else
    F_K_setAsTold_12 t x1 x2 x3 16 w
set_option maxHeartbeats 4000000 in
set_option maxRecDepth 100000 in
theorem s_K_setAsTold_66 {G : Gx} {X : Cx} {res : Int32 × A_W} (K : Ok G X 0 c_K_setAsTold 7 (some .int) rm_K_setAsTold) (hQ : QQ G X (some (.int res.1)) res.2 0 0) {k20 : Nat → Int32 → Nat → Int32 → Int32 → Int32 → Int32 → A_W → Option (Int32 × A_W)} (hk20 : ∀ (t : Nat) (x1 : Int32) (x2 : Nat) (x3 : Int32) (x4 : Int32) (x5 : Int32) (x6 : Int32) (w : A_W), k20 t x1 x2 x3 x4 x5 x6 w = some res → Sm G X w 0 0 [some (.ref t), some (.int x1), some (.ref x2), some (.int x3), some (.int x4), some (.int x5), some (.int x6)] [] 20) (t : Nat) (x1 : Int32) (x2 : Nat) (x3 : Int32) (x4 : Int32) (x5 : Int32) (x6 : Int32) (w : A_W) (h : F_K_setAsTold_66 k20 t x1 x2 x3 x4 x5 x6 w = some res) : Sm G X w 0 0 [some (.ref t), some (.int x1), some (.ref x2), some (.int x3), some (.int x4), some (.int x5), some (.int x6)] [] 66 := by
  unfold F_K_setAsTold_66 at h
  refine Sm_run K ek_K_setAsTold 35 2 rfl ?_
  exact Sm_le (leR_s (leR_s (leR_s (leR_s (leR_s (leR_s (leR_s leR_nil))))))) (hk20 _ _ _ _ _ _ _ _ h)
set_option maxHeartbeats 4000000 in
set_option maxRecDepth 100000 in
theorem s_K_setAsTold_20 {G : Gx} {X : Cx} {res : Int32 × A_W} (K : Ok G X 0 c_K_setAsTold 7 (some .int) rm_K_setAsTold) (hQ : QQ G X (some (.int res.1)) res.2 0 0) : ∀ (n : Nat) (t : Nat) (x1 : Int32) (x2 : Nat) (x3 : Int32) (x4 : Int32) (x5 : Int32) (x6 : Int32) (w : A_W), F_K_setAsTold_20 n t x1 x2 x3 x4 x5 x6 w = some res → Sm G X w 0 0 [some (.ref t), some (.int x1), some (.ref x2), some (.int x3), some (.int x4), some (.int x5), some (.int x6)] [] 20 := by
  intro n
  induction n with
  | zero => intro t x1 x2 x3 x4 x5 x6 w h; cases h
  | succ n ih =>
    intro t x1 x2 x3 x4 x5 x6 w h
    rw [F_K_setAsTold_20] at h
    refine Sm_run K ek_K_setAsTold 11 2 rfl ?_
    refine Sm_ic_ge K (eo ek_K_setAsTold (i := 13) rfl) (fun c1 => ?_) (fun c1 => ?_)
    · rw [if_pos c1] at h
      refine Sm_run K ek_K_setAsTold 37 1 rfl ?_
      obtain rfl := Option.some.inj h
      exact Sm_reti K hQ (eok_i (eo ek_K_setAsTold (i := 38) rfl) rfl)
    · rw [if_neg c1] at h
      refine Sm_run K ek_K_setAsTold 14 1 rfl ?_
      obtain ⟨a2, e_a2, h⟩ := Option.bind_eq_some_iff.mp h
      refine Sm_gr K (eo ek_K_setAsTold (i := 15) rfl) e_a2 ?_
      refine Sm_run K ek_K_setAsTold 16 1 rfl ?_
      obtain ⟨a3, e_a3, h⟩ := Option.bind_eq_some_iff.mp h
      refine Sm_gr K (eo ek_K_setAsTold (i := 17) rfl) e_a3 ?_
      obtain ⟨o5, e_o5, h⟩ := Option.bind_eq_some_iff.mp h
      obtain ⟨p4, e_p4, h⟩ := Option.bind_eq_some_iff.mp h
      refine Sm_callV K (eok_i (eo ek_K_setAsTold (i := 18) rfl) rfl) cy_R_become im_R_become se_R_become (lgm 417 (by decide +kernel) rfl) ⟨Nat.le_of_ble_eq_true rfl, Nat.le_of_ble_eq_true rfl⟩ (as := [.ref a3]) (b := a2) (st := []) (ob_e e_o5) (by decide) rfl rfl rfl rfl (Nat.le_of_ble_eq_true rfl) ⟨Nat.le_of_ble_eq_true rfl, Nat.le_of_ble_eq_true rfl⟩ (cn_R_become e_p4) ?_
      refine Sm_eq (st1 := []) (nc1 := 0) (ns1 := 0) rfl rfl rfl ?_
      refine Sm_run K ek_K_setAsTold 19 1 rfl ?_
      obtain ⟨a6, e_a6, h⟩ := Option.bind_eq_some_iff.mp h
      refine Sm_gr K (eo ek_K_setAsTold (i := 20) rfl) e_a6 ?_
      refine Sm_run K ek_K_setAsTold 21 3 rfl ?_
      obtain ⟨o8, e_o8, h⟩ := Option.bind_eq_some_iff.mp h
      obtain ⟨p7, e_p7, h⟩ := Option.bind_eq_some_iff.mp h
      refine Sm_callV K (eok_i (eo ek_K_setAsTold (i := 24) rfl) rfl) cy_R_vary im_R_vary se_R_vary (lgm 460 (by decide +kernel) rfl) ⟨Nat.le_of_ble_eq_true rfl, Nat.le_of_ble_eq_true rfl⟩ (as := [.int x1, .int x3, .int x6]) (b := a6) (st := []) (ob_e e_o8) (by decide) rfl rfl rfl rfl (Nat.le_of_ble_eq_true rfl) ⟨Nat.le_of_ble_eq_true rfl, Nat.le_of_ble_eq_true rfl⟩ (cn_R_vary e_p7) ?_
      refine Sm_eq (st1 := []) (nc1 := 0) (ns1 := 0) rfl rfl rfl ?_
      refine Sm_run K ek_K_setAsTold 25 2 rfl ?_
      obtain ⟨o10, e_o10, h⟩ := Option.bind_eq_some_iff.mp h
      obtain ⟨p9, e_p9, h⟩ := Option.bind_eq_some_iff.mp h
      refine Sm_callV K (eok_i (eo ek_K_setAsTold (i := 27) rfl) rfl) cy_K_trialIsAsTold im_K_trialIsAsTold se_K_trialIsAsTold (lgm 519 (by decide +kernel) rfl) ⟨Nat.le_of_ble_eq_true rfl, Nat.le_of_ble_eq_true rfl⟩ (as := [.ref x2]) (b := t) (st := []) (ob_e e_o10) (by decide) rfl rfl rfl rfl (Nat.le_of_ble_eq_true rfl) ⟨Nat.le_of_ble_eq_true rfl, Nat.le_of_ble_eq_true rfl⟩ (cn_K_trialIsAsTold e_p9) ?_
      refine Sm_eq (st1 := .int p9.1 :: []) (nc1 := 0) (ns1 := 0) rfl rfl rfl ?_
      refine Sm_if_eq K (eo ek_K_setAsTold (i := 28) rfl) (fun c11 => ?_) (fun c11 => ?_)
      · rw [if_pos c11] at h
        exact Sm_le (leR_s (leR_s (leR_s (leR_s (leR_s (leR_s (leR_s leR_nil))))))) (s_K_setAsTold_66 K hQ ih _ _ _ _ _ _ _ _ h)
      · rw [if_neg c11] at h
        refine Sm_run K ek_K_setAsTold 29 6 rfl ?_
        exact Sm_le (leR_s (leR_s (leR_s (leR_s (leR_s (leR_s (leR_s leR_nil))))))) (s_K_setAsTold_66 K hQ ih _ _ _ _ _ _ _ _ h)
set_option maxHeartbeats 4000000 in
set_option maxRecDepth 100000 in
theorem s_K_setAsTold_12 {G : Gx} {X : Cx} {res : Int32 × A_W} (K : Ok G X 0 c_K_setAsTold 7 (some .int) rm_K_setAsTold) (hQ : QQ G X (some (.int res.1)) res.2 0 0) (t : Nat) (x1 : Int32) (x2 : Nat) (x3 : Int32) (y0 : Int32) (w : A_W) (h : F_K_setAsTold_12 t x1 x2 x3 y0 w = some res) : Sm G X w 0 0 [some (.ref t), some (.int x1), some (.ref x2), some (.int x3), none, none, none] [.int y0] 12 := by
  unfold F_K_setAsTold_12 at h
  refine Sm_run K ek_K_setAsTold 6 5 rfl ?_
  exact Sm_le (leR_s (leR_s (leR_s (leR_s (leR_s (leR_s (leR_s leR_nil))))))) (s_K_setAsTold_20 K hQ FU _ _ _ _ _ _ _ _ h)
set_option maxHeartbeats 4000000 in
set_option maxRecDepth 100000 in
theorem s_K_setAsTold_0 {G : Gx} {X : Cx} {res : Int32 × A_W} (K : Ok G X 0 c_K_setAsTold 7 (some .int) rm_K_setAsTold) (hQ : QQ G X (some (.int res.1)) res.2 0 0) (t : Nat) (x1 : Int32) (x2 : Nat) (x3 : Int32) (w : A_W) (h : F_K_setAsTold_0 t x1 x2 x3 w = some res) : Sm G X w 0 0 [some (.ref t), some (.int x1), some (.ref x2), some (.int x3), none, none, none] [] 0 := by
  unfold F_K_setAsTold_0 at h
  refine Sm_run K ek_K_setAsTold 0 2 rfl ?_
  refine Sm_ic_ne K (eo ek_K_setAsTold (i := 2) rfl) (fun c1 => ?_) (fun c1 => ?_)
  · rw [if_neg c1] at h
    refine Sm_run K ek_K_setAsTold 5 1 rfl ?_
    exact Sm_le (leR_s (leR_s (leR_s (leR_s (leR_n (leR_n (leR_n leR_nil))))))) (s_K_setAsTold_12 K hQ _ _ _ _ _ _ h)
  · rw [if_pos c1] at h
    refine Sm_run K ek_K_setAsTold 3 2 rfl ?_
    exact Sm_le (leR_s (leR_s (leR_s (leR_s (leR_n (leR_n (leR_n leR_nil))))))) (s_K_setAsTold_12 K hQ _ _ _ _ _ _ h)
def F_K_setAsTold (t : Nat) (x1 : Int32) (x2 : Nat) (x3 : Int32) (w : A_W) : Option (Int32 × A_W) := F_K_setAsTold_0 t x1 x2 x3 w
theorem cn_K_setAsTold {G : Gx} {t : Nat} {x1 : Int32} {x2 : Nat} {x3 : Int32} {w : A_W} {res : Int32 × A_W} (h : F_K_setAsTold t x1 x2 x3 w = some res) : Cn G y_K_setAsTold c_K_setAsTold 7 (some .int) rm_K_setAsTold [.ref t, .int x1, .ref x2, .int x3] w (some (.int res.1)) res.2 :=
  Cn_of (own := 0) cy_K_setAsTold rfl rfl (Nat.le_of_ble_eq_true rfl) rfl (fun X K _ hQ => Sm_le (leR_s (leR_s (leR_s (leR_s (leR_n (leR_n (leR_n leR_nil))))))) (s_K_setAsTold_0 K hQ _ _ _ _ _ h))
/-! EveningCloak.fits(II)I -/
abbrev c_K_fits : ByteArray := prog_1_method_25_code
def y_K_fits : MethodName := ⟨"EveningCloak", "fits", "(II)I"⟩
def rm_K_fits : Room := { frames := 7, cells := 0, slots := 0, locals := 163 }
theorem cy_K_fits : Cy y_K_fits c_K_fits 4 (some .int) 2 := ⟨lgm 503 (by decide +kernel) rfl, lgm 68 (by decide +kernel) rfl, by decide +kernel, by decide +kernel⟩
theorem im_K_fits : Cond.instanceMethod y_K_fits ∈ lg := lgm 501 (by decide +kernel) rfl
theorem se_K_fits : Cond.selects y_K_fits.cls y_K_fits y_K_fits ∈ lg := lgm 502 (by decide +kernel) rfl
def e_K_fits : List Ent := [
  (0, .aload_n 0, 1, 1, .null, 0, 0, 0),
  (1, .iload_n 1, 1, 2, .null, 0, 0, 0),
  (2, .iload_n 2, 1, 3, .null, 0, 0, 0),
  (3, .invokevirtual 164, 3, 6, .null, 0, 0, 0),
  (6, .istore_n 3, 1, 7, .null, 0, 0, 0),
  (7, .iload_n 3, 1, 8, .null, 0, 0, 0),
  (8, .iconst (-1), 1, 9, .int (-1), 0, 0, 0),
  (9, .if_icmp .eq 11, 3, 20, .null, 0, 0, 0),
  (12, .aload_n 0, 1, 13, .null, 0, 0, 0),
  (13, .iload_n 3, 1, 14, .null, 0, 0, 0),
  (14, .invokevirtual 48, 3, 17, .null, 0, 0, 0),
  (17, .goto 15, 3, 32, .null, 0, 0, 0),
  (20, .aload_n 0, 1, 21, .null, 0, 0, 0),
  (21, .iconst 0, 1, 22, .int 0, 0, 0, 0),
  (22, .aload_n 0, 1, 23, .null, 0, 0, 0),
  (23, .getfield 31, 3, 26, .null, 0, 5, 222),
  (26, .iload_n 1, 1, 27, .null, 0, 0, 0),
  (27, .aaload, 1, 28, .null, 0, 0, 0),
  (28, .iload_n 2, 1, 29, .null, 0, 0, 0),
  (29, .invokevirtual 167, 3, 32, .null, 0, 0, 0),
  (32, .ireturn, 1, 33, .null, 0, 0, 0)]
set_option maxRecDepth 100000 in
theorem ek_K_fits : e_K_fits.all (eok 0 c_K_fits) = true := by decide +kernel
def F_K_fits_32 (y0 : Int32) (w : A_W) : Option (Int32 × A_W) :=
  some (y0, w)
def F_K_fits_0 (t : Nat) (x1 : Int32) (x2 : Int32) (w : A_W) : Option (Int32 × A_W) :=
  (ob w t 0).bind fun o2 =>
  (F_K_refusedAsTold t x1 x2 w).bind fun p1 =>
  if p1.1 = (-1) then
    (gr p1.2 t 0 5).bind fun a4 =>
    (ra p1.2 a4 x1).bind fun a5 =>
    (ob p1.2 t 0).bind fun o7 =>
    (F_K_setAsTold t 0 a5 x2 p1.2).bind fun p6 =>
    F_K_fits_32 p6.1 p6.2
  else
    (ob p1.2 t 0).bind fun o9 =>
    (F_K_finding t p1.1 p1.2).bind fun p8 =>
    F_K_fits_32 p8.1 p8.2
set_option maxHeartbeats 4000000 in
set_option maxRecDepth 100000 in
theorem s_K_fits_32 {G : Gx} {X : Cx} {res : Int32 × A_W} (K : Ok G X 0 c_K_fits 4 (some .int) rm_K_fits) (hQ : QQ G X (some (.int res.1)) res.2 0 0) (y0 : Int32) (w : A_W) (h : F_K_fits_32 y0 w = some res) : Sm G X w 0 0 [none, none, none, none] [.int y0] 32 := by
  unfold F_K_fits_32 at h
  obtain rfl := Option.some.inj h
  exact Sm_reti K hQ (eok_i (eo ek_K_fits (i := 20) rfl) rfl)
set_option maxHeartbeats 4000000 in
set_option maxRecDepth 100000 in
theorem s_K_fits_0 {G : Gx} {X : Cx} {res : Int32 × A_W} (K : Ok G X 0 c_K_fits 4 (some .int) rm_K_fits) (hQ : QQ G X (some (.int res.1)) res.2 0 0) (t : Nat) (x1 : Int32) (x2 : Int32) (w : A_W) (h : F_K_fits_0 t x1 x2 w = some res) : Sm G X w 0 0 [some (.ref t), some (.int x1), some (.int x2), none] [] 0 := by
  unfold F_K_fits_0 at h
  refine Sm_run K ek_K_fits 0 3 rfl ?_
  obtain ⟨o2, e_o2, h⟩ := Option.bind_eq_some_iff.mp h
  obtain ⟨p1, e_p1, h⟩ := Option.bind_eq_some_iff.mp h
  refine Sm_callV K (eok_i (eo ek_K_fits (i := 3) rfl) rfl) cy_K_refusedAsTold im_K_refusedAsTold se_K_refusedAsTold (lgm 504 (by decide +kernel) rfl) ⟨Nat.le_of_ble_eq_true rfl, Nat.le_of_ble_eq_true rfl⟩ (as := [.int x1, .int x2]) (b := t) (st := []) (ob_e e_o2) (by decide) rfl rfl rfl rfl (Nat.le_of_ble_eq_true rfl) ⟨Nat.le_of_ble_eq_true rfl, Nat.le_of_ble_eq_true rfl⟩ (cn_K_refusedAsTold e_p1) ?_
  refine Sm_eq (st1 := .int p1.1 :: []) (nc1 := 0) (ns1 := 0) rfl rfl rfl ?_
  refine Sm_run K ek_K_fits 4 3 rfl ?_
  refine Sm_ic_eq K (eo ek_K_fits (i := 7) rfl) (fun c3 => ?_) (fun c3 => ?_)
  · rw [if_pos c3] at h
    refine Sm_run K ek_K_fits 12 3 rfl ?_
    obtain ⟨a4, e_a4, h⟩ := Option.bind_eq_some_iff.mp h
    refine Sm_gr K (eo ek_K_fits (i := 15) rfl) e_a4 ?_
    refine Sm_run K ek_K_fits 16 1 rfl ?_
    obtain ⟨a5, e_a5, h⟩ := Option.bind_eq_some_iff.mp h
    refine Sm_ra K (eok_i (eo ek_K_fits (i := 17) rfl) rfl) e_a5 ?_
    refine Sm_run K ek_K_fits 18 1 rfl ?_
    obtain ⟨o7, e_o7, h⟩ := Option.bind_eq_some_iff.mp h
    obtain ⟨p6, e_p6, h⟩ := Option.bind_eq_some_iff.mp h
    refine Sm_callV K (eok_i (eo ek_K_fits (i := 19) rfl) rfl) cy_K_setAsTold im_K_setAsTold se_K_setAsTold (lgm 515 (by decide +kernel) rfl) ⟨Nat.le_of_ble_eq_true rfl, Nat.le_of_ble_eq_true rfl⟩ (as := [.int 0, .ref a5, .int x2]) (b := t) (st := []) (ob_e e_o7) (by decide) rfl rfl rfl rfl (Nat.le_of_ble_eq_true rfl) ⟨Nat.le_of_ble_eq_true rfl, Nat.le_of_ble_eq_true rfl⟩ (cn_K_setAsTold e_p6) ?_
    refine Sm_eq (st1 := .int p6.1 :: []) (nc1 := 0) (ns1 := 0) rfl rfl rfl ?_
    exact Sm_le (leR_n (leR_n (leR_n (leR_n leR_nil)))) (s_K_fits_32 K hQ _ _ h)
  · rw [if_neg c3] at h
    refine Sm_run K ek_K_fits 8 2 rfl ?_
    obtain ⟨o9, e_o9, h⟩ := Option.bind_eq_some_iff.mp h
    obtain ⟨p8, e_p8, h⟩ := Option.bind_eq_some_iff.mp h
    refine Sm_callV K (eok_i (eo ek_K_fits (i := 10) rfl) rfl) cy_K_finding im_K_finding se_K_finding (lgm 249 (by decide +kernel) rfl) ⟨Nat.le_of_ble_eq_true rfl, Nat.le_of_ble_eq_true rfl⟩ (as := [.int p1.1]) (b := t) (st := []) (ob_e e_o9) (by decide) rfl rfl rfl rfl (Nat.le_of_ble_eq_true rfl) ⟨Nat.le_of_ble_eq_true rfl, Nat.le_of_ble_eq_true rfl⟩ (cn_K_finding e_p8) ?_
    refine Sm_eq (st1 := .int p8.1 :: []) (nc1 := 0) (ns1 := 0) rfl rfl rfl ?_
    refine Sm_run K ek_K_fits 11 1 rfl ?_
    exact Sm_le (leR_n (leR_n (leR_n (leR_n leR_nil)))) (s_K_fits_32 K hQ _ _ h)
def F_K_fits (t : Nat) (x1 : Int32) (x2 : Int32) (w : A_W) : Option (Int32 × A_W) := F_K_fits_0 t x1 x2 w
theorem cn_K_fits {G : Gx} {t : Nat} {x1 : Int32} {x2 : Int32} {w : A_W} {res : Int32 × A_W} (h : F_K_fits t x1 x2 w = some res) : Cn G y_K_fits c_K_fits 4 (some .int) rm_K_fits [.ref t, .int x1, .int x2] w (some (.int res.1)) res.2 :=
  Cn_of (own := 0) cy_K_fits rfl rfl (Nat.le_of_ble_eq_true rfl) rfl (fun X K _ hQ => Sm_le (leR_s (leR_s (leR_s (leR_n leR_nil)))) (s_K_fits_0 K hQ _ _ _ _ h))
/-! EveningCloak.kinds(II)I -/
abbrev c_K_kinds : ByteArray := prog_1_method_26_code
def y_K_kinds : MethodName := ⟨"EveningCloak", "kinds", "(II)I"⟩
def rm_K_kinds : Room := { frames := 7, cells := 0, slots := 0, locals := 163 }
theorem cy_K_kinds : Cy y_K_kinds c_K_kinds 4 (some .int) 2 := ⟨lgm 527 (by decide +kernel) rfl, lgm 68 (by decide +kernel) rfl, by decide +kernel, by decide +kernel⟩
theorem im_K_kinds : Cond.instanceMethod y_K_kinds ∈ lg := lgm 525 (by decide +kernel) rfl
theorem se_K_kinds : Cond.selects y_K_kinds.cls y_K_kinds y_K_kinds ∈ lg := lgm 526 (by decide +kernel) rfl
def e_K_kinds : List Ent := [
  (0, .aload_n 0, 1, 1, .null, 0, 0, 0),
  (1, .iload_n 1, 1, 2, .null, 0, 0, 0),
  (2, .iload_n 2, 1, 3, .null, 0, 0, 0),
  (3, .invokevirtual 164, 3, 6, .null, 0, 0, 0),
  (6, .istore_n 3, 1, 7, .null, 0, 0, 0),
  (7, .iload_n 3, 1, 8, .null, 0, 0, 0),
  (8, .iconst (-1), 1, 9, .int (-1), 0, 0, 0),
  (9, .if_icmp .eq 11, 3, 20, .null, 0, 0, 0),
  (12, .aload_n 0, 1, 13, .null, 0, 0, 0),
  (13, .iload_n 3, 1, 14, .null, 0, 0, 0),
  (14, .invokevirtual 48, 3, 17, .null, 0, 0, 0),
  (17, .goto 15, 3, 32, .null, 0, 0, 0),
  (20, .aload_n 0, 1, 21, .null, 0, 0, 0),
  (21, .iconst 2, 1, 22, .int 2, 0, 0, 0),
  (22, .aload_n 0, 1, 23, .null, 0, 0, 0),
  (23, .getfield 31, 3, 26, .null, 0, 5, 222),
  (26, .iload_n 1, 1, 27, .null, 0, 0, 0),
  (27, .aaload, 1, 28, .null, 0, 0, 0),
  (28, .iload_n 2, 1, 29, .null, 0, 0, 0),
  (29, .invokevirtual 167, 3, 32, .null, 0, 0, 0),
  (32, .ireturn, 1, 33, .null, 0, 0, 0)]
set_option maxRecDepth 100000 in
theorem ek_K_kinds : e_K_kinds.all (eok 0 c_K_kinds) = true := by decide +kernel
def F_K_kinds_32 (y0 : Int32) (w : A_W) : Option (Int32 × A_W) :=
  some (y0, w)
def F_K_kinds_0 (t : Nat) (x1 : Int32) (x2 : Int32) (w : A_W) : Option (Int32 × A_W) :=
  (ob w t 0).bind fun o2 =>
  (F_K_refusedAsTold t x1 x2 w).bind fun p1 =>
  if p1.1 = (-1) then
    (gr p1.2 t 0 5).bind fun a4 =>
    (ra p1.2 a4 x1).bind fun a5 =>
    (ob p1.2 t 0).bind fun o7 =>
    (F_K_setAsTold t 2 a5 x2 p1.2).bind fun p6 =>
    F_K_kinds_32 p6.1 p6.2
  else
    (ob p1.2 t 0).bind fun o9 =>
    (F_K_finding t p1.1 p1.2).bind fun p8 =>
    F_K_kinds_32 p8.1 p8.2
set_option maxHeartbeats 4000000 in
set_option maxRecDepth 100000 in
theorem s_K_kinds_32 {G : Gx} {X : Cx} {res : Int32 × A_W} (K : Ok G X 0 c_K_kinds 4 (some .int) rm_K_kinds) (hQ : QQ G X (some (.int res.1)) res.2 0 0) (y0 : Int32) (w : A_W) (h : F_K_kinds_32 y0 w = some res) : Sm G X w 0 0 [none, none, none, none] [.int y0] 32 := by
  unfold F_K_kinds_32 at h
  obtain rfl := Option.some.inj h
  exact Sm_reti K hQ (eok_i (eo ek_K_kinds (i := 20) rfl) rfl)
set_option maxHeartbeats 4000000 in
set_option maxRecDepth 100000 in
theorem s_K_kinds_0 {G : Gx} {X : Cx} {res : Int32 × A_W} (K : Ok G X 0 c_K_kinds 4 (some .int) rm_K_kinds) (hQ : QQ G X (some (.int res.1)) res.2 0 0) (t : Nat) (x1 : Int32) (x2 : Int32) (w : A_W) (h : F_K_kinds_0 t x1 x2 w = some res) : Sm G X w 0 0 [some (.ref t), some (.int x1), some (.int x2), none] [] 0 := by
  unfold F_K_kinds_0 at h
  refine Sm_run K ek_K_kinds 0 3 rfl ?_
  obtain ⟨o2, e_o2, h⟩ := Option.bind_eq_some_iff.mp h
  obtain ⟨p1, e_p1, h⟩ := Option.bind_eq_some_iff.mp h
  refine Sm_callV K (eok_i (eo ek_K_kinds (i := 3) rfl) rfl) cy_K_refusedAsTold im_K_refusedAsTold se_K_refusedAsTold (lgm 504 (by decide +kernel) rfl) ⟨Nat.le_of_ble_eq_true rfl, Nat.le_of_ble_eq_true rfl⟩ (as := [.int x1, .int x2]) (b := t) (st := []) (ob_e e_o2) (by decide) rfl rfl rfl rfl (Nat.le_of_ble_eq_true rfl) ⟨Nat.le_of_ble_eq_true rfl, Nat.le_of_ble_eq_true rfl⟩ (cn_K_refusedAsTold e_p1) ?_
  refine Sm_eq (st1 := .int p1.1 :: []) (nc1 := 0) (ns1 := 0) rfl rfl rfl ?_
  refine Sm_run K ek_K_kinds 4 3 rfl ?_
  refine Sm_ic_eq K (eo ek_K_kinds (i := 7) rfl) (fun c3 => ?_) (fun c3 => ?_)
  · rw [if_pos c3] at h
    refine Sm_run K ek_K_kinds 12 3 rfl ?_
    obtain ⟨a4, e_a4, h⟩ := Option.bind_eq_some_iff.mp h
    refine Sm_gr K (eo ek_K_kinds (i := 15) rfl) e_a4 ?_
    refine Sm_run K ek_K_kinds 16 1 rfl ?_
    obtain ⟨a5, e_a5, h⟩ := Option.bind_eq_some_iff.mp h
    refine Sm_ra K (eok_i (eo ek_K_kinds (i := 17) rfl) rfl) e_a5 ?_
    refine Sm_run K ek_K_kinds 18 1 rfl ?_
    obtain ⟨o7, e_o7, h⟩ := Option.bind_eq_some_iff.mp h
    obtain ⟨p6, e_p6, h⟩ := Option.bind_eq_some_iff.mp h
    refine Sm_callV K (eok_i (eo ek_K_kinds (i := 19) rfl) rfl) cy_K_setAsTold im_K_setAsTold se_K_setAsTold (lgm 515 (by decide +kernel) rfl) ⟨Nat.le_of_ble_eq_true rfl, Nat.le_of_ble_eq_true rfl⟩ (as := [.int 2, .ref a5, .int x2]) (b := t) (st := []) (ob_e e_o7) (by decide) rfl rfl rfl rfl (Nat.le_of_ble_eq_true rfl) ⟨Nat.le_of_ble_eq_true rfl, Nat.le_of_ble_eq_true rfl⟩ (cn_K_setAsTold e_p6) ?_
    refine Sm_eq (st1 := .int p6.1 :: []) (nc1 := 0) (ns1 := 0) rfl rfl rfl ?_
    exact Sm_le (leR_n (leR_n (leR_n (leR_n leR_nil)))) (s_K_kinds_32 K hQ _ _ h)
  · rw [if_neg c3] at h
    refine Sm_run K ek_K_kinds 8 2 rfl ?_
    obtain ⟨o9, e_o9, h⟩ := Option.bind_eq_some_iff.mp h
    obtain ⟨p8, e_p8, h⟩ := Option.bind_eq_some_iff.mp h
    refine Sm_callV K (eok_i (eo ek_K_kinds (i := 10) rfl) rfl) cy_K_finding im_K_finding se_K_finding (lgm 249 (by decide +kernel) rfl) ⟨Nat.le_of_ble_eq_true rfl, Nat.le_of_ble_eq_true rfl⟩ (as := [.int p1.1]) (b := t) (st := []) (ob_e e_o9) (by decide) rfl rfl rfl rfl (Nat.le_of_ble_eq_true rfl) ⟨Nat.le_of_ble_eq_true rfl, Nat.le_of_ble_eq_true rfl⟩ (cn_K_finding e_p8) ?_
    refine Sm_eq (st1 := .int p8.1 :: []) (nc1 := 0) (ns1 := 0) rfl rfl rfl ?_
    refine Sm_run K ek_K_kinds 11 1 rfl ?_
    exact Sm_le (leR_n (leR_n (leR_n (leR_n leR_nil)))) (s_K_kinds_32 K hQ _ _ h)
def F_K_kinds (t : Nat) (x1 : Int32) (x2 : Int32) (w : A_W) : Option (Int32 × A_W) := F_K_kinds_0 t x1 x2 w
theorem cn_K_kinds {G : Gx} {t : Nat} {x1 : Int32} {x2 : Int32} {w : A_W} {res : Int32 × A_W} (h : F_K_kinds t x1 x2 w = some res) : Cn G y_K_kinds c_K_kinds 4 (some .int) rm_K_kinds [.ref t, .int x1, .int x2] w (some (.int res.1)) res.2 :=
  Cn_of (own := 0) cy_K_kinds rfl rfl (Nat.le_of_ble_eq_true rfl) rfl (fun X K _ hQ => Sm_le (leR_s (leR_s (leR_s (leR_n leR_nil)))) (s_K_kinds_0 K hQ _ _ _ _ h))
/-! EveningCloak$Room.draw()I -/
abbrev c_R_draw : ByteArray := prog_3_method_28_code
def y_R_draw : MethodName := ⟨"EveningCloak$Room", "draw", "()I"⟩
def rm_R_draw : Room := { frames := 0, cells := 0, slots := 0, locals := 0 }
theorem cy_R_draw : Cy y_R_draw c_R_draw 1 (some .int) 0 := ⟨lgm 535 (by decide +kernel) rfl, lgm 69 (by decide +kernel) rfl, by decide +kernel, by decide +kernel⟩
theorem im_R_draw : Cond.instanceMethod y_R_draw ∈ lg := lgm 533 (by decide +kernel) rfl
theorem se_R_draw : Cond.selects y_R_draw.cls y_R_draw y_R_draw ∈ lg := lgm 534 (by decide +kernel) rfl
def e_R_draw : List Ent := [
  (0, .aload_n 0, 1, 1, .null, 0, 0, 0),
  (1, .aload_n 0, 1, 2, .null, 0, 0, 0),
  (2, .getfield 9, 3, 5, .null, 2, 2, 102),
  (5, .ldc 123, 2, 7, .int 1103515245, 0, 0, 536),
  (7, .imul, 1, 8, .null, 0, 0, 0),
  (8, .sipush 12345, 3, 11, .int 12345, 0, 0, 0),
  (11, .iadd, 1, 12, .null, 0, 0, 0),
  (12, .putfield 9, 3, 15, .null, 2, 2, 102),
  (15, .aload_n 0, 1, 16, .null, 0, 0, 0),
  (16, .getfield 9, 3, 19, .null, 2, 2, 102),
  (19, .bipush 8, 2, 21, .int 8, 0, 0, 0),
  (21, .iushr, 1, 22, .null, 0, 0, 0),
  (22, .ireturn, 1, 23, .null, 0, 0, 0)]
set_option maxRecDepth 100000 in
theorem ek_R_draw : e_R_draw.all (eok 2 c_R_draw) = true := by decide +kernel
def F_R_draw_0 (t : Nat) (w : A_W) : Option (Int32 × A_W) :=
  (gi w t 2 2).bind fun v1 =>
  (pf w t 2 2 (.int ((v1 * 1103515245) + 12345))).bind fun w2 =>
  (gi w2 t 2 2).bind fun v3 =>
  some ((Int32.toUInt32 v3 >>> (Int32.toUInt32 8 &&& Int32.toUInt32 31)).toInt32, w2)
set_option maxHeartbeats 4000000 in
set_option maxRecDepth 100000 in
theorem s_R_draw_0 {G : Gx} {X : Cx} {res : Int32 × A_W} (K : Ok G X 2 c_R_draw 1 (some .int) rm_R_draw) (hQ : QQ G X (some (.int res.1)) res.2 0 0) (t : Nat) (w : A_W) (h : F_R_draw_0 t w = some res) : Sm G X w 0 0 [some (.ref t)] [] 0 := by
  unfold F_R_draw_0 at h
  refine Sm_run K ek_R_draw 0 2 rfl ?_
  obtain ⟨v1, e_v1, h⟩ := Option.bind_eq_some_iff.mp h
  refine Sm_gi K (eo ek_R_draw (i := 2) rfl) e_v1 ?_
  refine Sm_run K ek_R_draw 3 4 rfl ?_
  obtain ⟨w2, e_w2, h⟩ := Option.bind_eq_some_iff.mp h
  refine Sm_pi K (eo ek_R_draw (i := 7) rfl) rfl rfl e_w2 ?_
  refine Sm_run K ek_R_draw 8 1 rfl ?_
  obtain ⟨v3, e_v3, h⟩ := Option.bind_eq_some_iff.mp h
  refine Sm_gi K (eo ek_R_draw (i := 9) rfl) e_v3 ?_
  refine Sm_run K ek_R_draw 10 2 rfl ?_
  obtain rfl := Option.some.inj h
  exact Sm_reti K hQ (eok_i (eo ek_R_draw (i := 12) rfl) rfl)
def F_R_draw (t : Nat) (w : A_W) : Option (Int32 × A_W) := F_R_draw_0 t w
theorem cn_R_draw {G : Gx} {t : Nat} {w : A_W} {res : Int32 × A_W} (h : F_R_draw t w = some res) : Cn G y_R_draw c_R_draw 1 (some .int) rm_R_draw [.ref t] w (some (.int res.1)) res.2 :=
  Cn_of (own := 2) cy_R_draw rfl rfl (Nat.le_of_ble_eq_true rfl) rfl (fun X K _ hQ => Sm_le (leR_s leR_nil) (s_R_draw_0 K hQ _ _ h))
/-! EveningCloak.night(I)I -/
abbrev c_K_night : ByteArray := prog_1_method_27_code
def y_K_night : MethodName := ⟨"EveningCloak", "night", "(I)I"⟩
def rm_K_night : Room := { frames := 5, cells := 0, slots := 0, locals := 113 }
theorem cy_K_night : Cy y_K_night c_K_night 5 (some .int) 1 := ⟨lgm 531 (by decide +kernel) rfl, lgm 68 (by decide +kernel) rfl, by decide +kernel, by decide +kernel⟩
theorem im_K_night : Cond.instanceMethod y_K_night ∈ lg := lgm 529 (by decide +kernel) rfl
theorem se_K_night : Cond.selects y_K_night.cls y_K_night y_K_night ∈ lg := lgm 530 (by decide +kernel) rfl
def e_K_night : List Ent := [
  (0, .iload_n 1, 1, 1, .null, 0, 0, 0),
  (1, .iconst 1, 1, 2, .int 1, 0, 0, 0),
  (2, .bipush 20, 2, 4, .int 20, 0, 0, 0),
  (4, .invokestatic 40, 3, 7, .null, 0, 0, 0),
  (7, .ifCond .ne 9, 3, 16, .null, 0, 0, 0),
  (10, .aload_n 0, 1, 11, .null, 0, 0, 0),
  (11, .iconst 0, 1, 12, .int 0, 0, 0, 0),
  (12, .invokevirtual 48, 3, 15, .null, 0, 0, 0),
  (15, .ireturn, 1, 16, .null, 0, 0, 0),
  (16, .aload_n 0, 1, 17, .null, 0, 0, 0),
  (17, .getfield 12, 3, 20, .null, 0, 0, 217),
  (20, .getfield 109, 3, 23, .null, 2, 0, 99),
  (23, .iload_n 1, 1, 24, .null, 0, 0, 0),
  (24, .iadd, 1, 25, .null, 0, 0, 0),
  (25, .ldc 112, 2, 27, .int 99999, 0, 0, 366),
  (27, .if_icmp .le 9, 3, 36, .null, 0, 0, 0),
  (30, .aload_n 0, 1, 31, .null, 0, 0, 0),
  (31, .iconst 4, 1, 32, .int 4, 0, 0, 0),
  (32, .invokevirtual 48, 3, 35, .null, 0, 0, 0),
  (35, .ireturn, 1, 36, .null, 0, 0, 0),
  (36, .iconst 0, 1, 37, .int 0, 0, 0, 0),
  (37, .istore_n 2, 1, 38, .null, 0, 0, 0),
  (38, .iload_n 2, 1, 39, .null, 0, 0, 0),
  (39, .iload_n 1, 1, 40, .null, 0, 0, 0),
  (40, .if_icmp .ge 64, 3, 104, .null, 0, 0, 0),
  (43, .aload_n 0, 1, 44, .null, 0, 0, 0),
  (44, .getfield 12, 3, 47, .null, 0, 0, 217),
  (47, .invokevirtual 171, 3, 50, .null, 0, 0, 0),
  (50, .bipush 6, 2, 52, .int 6, 0, 0, 0),
  (52, .irem, 1, 53, .null, 0, 0, 0),
  (53, .istore_n 3, 1, 54, .null, 0, 0, 0),
  (54, .aload_n 0, 1, 55, .null, 0, 0, 0),
  (55, .getfield 12, 3, 58, .null, 0, 0, 217),
  (58, .invokevirtual 171, 3, 61, .null, 0, 0, 0),
  (61, .bipush 16, 2, 63, .int 16, 0, 0, 0),
  (63, .irem, 1, 64, .null, 0, 0, 0),
  (64, .istore 4, 2, 66, .null, 0, 0, 0),
  (66, .aload_n 0, 1, 67, .null, 0, 0, 0),
  (67, .getfield 12, 3, 70, .null, 0, 0, 217),
  (70, .getfield 52, 3, 73, .null, 2, 5, 111),
  (73, .aload_n 0, 1, 74, .null, 0, 0, 0),
  (74, .getfield 12, 3, 77, .null, 0, 0, 217),
  (77, .getfield 109, 3, 80, .null, 2, 0, 99),
  (80, .bipush 6, 2, 82, .int 6, 0, 0, 0),
  (82, .irem, 1, 83, .null, 0, 0, 0),
  (83, .iload_n 3, 1, 84, .null, 0, 0, 0),
  (84, .iload 4, 2, 86, .null, 0, 0, 0),
  (86, .invokestatic 55, 3, 89, .null, 0, 0, 0),
  (89, .iastore, 1, 90, .null, 0, 0, 0),
  (90, .aload_n 0, 1, 91, .null, 0, 0, 0),
  (91, .getfield 12, 3, 94, .null, 0, 0, 217),
  (94, .iconst 1, 1, 95, .int 1, 0, 0, 0),
  (95, .invokevirtual 113, 3, 98, .null, 0, 0, 0),
  (98, .iinc 2 1, 3, 101, .int 1, 0, 0, 0),
  (101, .goto (-63), 3, 38, .null, 0, 0, 0),
  (104, .aload_n 0, 1, 105, .null, 0, 0, 0),
  (105, .getfield 12, 3, 108, .null, 0, 0, 217),
  (108, .invokevirtual 120, 3, 111, .null, 0, 0, 0),
  (111, .ireturn, 1, 112, .null, 0, 0, 0)]
set_option maxRecDepth 100000 in
theorem ek_K_night : e_K_night.all (eok 0 c_K_night) = true := by decide +kernel
def F_K_night_38 : Nat → Nat → Int32 → Int32 → A_W → Option (Int32 × A_W)
  | 0, _, _, _, _ => none
  | n + 1, t, x1, x2, w =>
    if x1 ≤ x2 then
      (gr w t 0 0).bind fun a2 =>
      (ob w a2 2).bind fun o4 =>
      (F_R_metTogether a2 w).bind fun p3 =>
      some (p3.1, p3.2)
    else
      (gr w t 0 0).bind fun a5 =>
      (ob w a5 2).bind fun o7 =>
      (F_R_draw a5 w).bind fun p6 =>
      (gr p6.2 t 0 0).bind fun a8 =>
      (ob p6.2 a8 2).bind fun o10 =>
      (F_R_draw a8 p6.2).bind fun p9 =>
      (gr p9.2 t 0 0).bind fun a11 =>
      (gr p9.2 a11 2 5).bind fun a12 =>
      (gr p9.2 t 0 0).bind fun a13 =>
      (gi p9.2 a13 2 0).bind fun v14 =>
      (F_K_standOf (jrem p6.1 6) (jrem p9.1 16) p9.2).bind fun p15 =>
      (wr p15.2 a12 (jrem v14 6) p15.1).bind fun w16 =>
      (gr w16 t 0 0).bind fun a17 =>
      (ob w16 a17 2).bind fun o19 =>
      (F_R_passDays a17 1 w16).bind fun p18 =>
      F_K_night_38 n t x1 (x2 + 1) p18
def F_K_night_0 (t : Nat) (x1 : Int32) (w : A_W) : Option (Int32 × A_W) :=
  (F_K_within x1 1 20 w).bind fun p1 =>
  if p1.1 = 0 then
    (ob p1.2 t 0).bind fun o9 =>
    (F_K_finding t 0 p1.2).bind fun p8 =>
    some (p8.1, p8.2)
  else
    (gr p1.2 t 0 0).bind fun a3 =>
    (gi p1.2 a3 2 0).bind fun v4 =>
    if (v4 + x1) ≤ 99999 then
      F_K_night_38 FU t x1 0 p1.2
    else
      (ob p1.2 t 0).bind fun o7 =>
      (F_K_finding t 4 p1.2).bind fun p6 =>
      some (p6.1, p6.2)
set_option maxHeartbeats 4000000 in
set_option maxRecDepth 100000 in
theorem s_K_night_38 {G : Gx} {X : Cx} {res : Int32 × A_W} (K : Ok G X 0 c_K_night 5 (some .int) rm_K_night) (hQ : QQ G X (some (.int res.1)) res.2 0 0) : ∀ (n : Nat) (t : Nat) (x1 : Int32) (x2 : Int32) (w : A_W), F_K_night_38 n t x1 x2 w = some res → Sm G X w 0 0 [some (.ref t), some (.int x1), some (.int x2), none, none] [] 38 := by
  intro n
  induction n with
  | zero => intro t x1 x2 w h; cases h
  | succ n ih =>
    intro t x1 x2 w h
    rw [F_K_night_38] at h
    refine Sm_run K ek_K_night 22 2 rfl ?_
    refine Sm_ic_ge K (eo ek_K_night (i := 24) rfl) (fun c1 => ?_) (fun c1 => ?_)
    · rw [if_pos c1] at h
      refine Sm_run K ek_K_night 55 1 rfl ?_
      obtain ⟨a2, e_a2, h⟩ := Option.bind_eq_some_iff.mp h
      refine Sm_gr K (eo ek_K_night (i := 56) rfl) e_a2 ?_
      obtain ⟨o4, e_o4, h⟩ := Option.bind_eq_some_iff.mp h
      obtain ⟨p3, e_p3, h⟩ := Option.bind_eq_some_iff.mp h
      refine Sm_callV K (eok_i (eo ek_K_night (i := 57) rfl) rfl) cy_R_metTogether im_R_metTogether se_R_metTogether (lgm 388 (by decide +kernel) rfl) ⟨Nat.le_of_ble_eq_true rfl, Nat.le_of_ble_eq_true rfl⟩ (as := []) (b := a2) (st := []) (ob_e e_o4) (by decide) rfl rfl rfl rfl (Nat.le_of_ble_eq_true rfl) ⟨Nat.le_of_ble_eq_true rfl, Nat.le_of_ble_eq_true rfl⟩ (cn_R_metTogether e_p3) ?_
      refine Sm_eq (st1 := .int p3.1 :: []) (nc1 := 0) (ns1 := 0) rfl rfl rfl ?_
      obtain rfl := Option.some.inj h
      exact Sm_reti K hQ (eok_i (eo ek_K_night (i := 58) rfl) rfl)
    · rw [if_neg c1] at h
      refine Sm_run K ek_K_night 25 1 rfl ?_
      obtain ⟨a5, e_a5, h⟩ := Option.bind_eq_some_iff.mp h
      refine Sm_gr K (eo ek_K_night (i := 26) rfl) e_a5 ?_
      obtain ⟨o7, e_o7, h⟩ := Option.bind_eq_some_iff.mp h
      obtain ⟨p6, e_p6, h⟩ := Option.bind_eq_some_iff.mp h
      refine Sm_callV K (eok_i (eo ek_K_night (i := 27) rfl) rfl) cy_R_draw im_R_draw se_R_draw (lgm 532 (by decide +kernel) rfl) ⟨Nat.le_of_ble_eq_true rfl, Nat.le_of_ble_eq_true rfl⟩ (as := []) (b := a5) (st := []) (ob_e e_o7) (by decide) rfl rfl rfl rfl (Nat.le_of_ble_eq_true rfl) ⟨Nat.le_of_ble_eq_true rfl, Nat.le_of_ble_eq_true rfl⟩ (cn_R_draw e_p6) ?_
      refine Sm_eq (st1 := .int p6.1 :: []) (nc1 := 0) (ns1 := 0) rfl rfl rfl ?_
      refine Sm_run K ek_K_night 28 1 rfl ?_
      refine Sm_irem K (eok_i (eo ek_K_night (i := 29) rfl) rfl) (by decide) ?_
      refine Sm_run K ek_K_night 30 2 rfl ?_
      obtain ⟨a8, e_a8, h⟩ := Option.bind_eq_some_iff.mp h
      refine Sm_gr K (eo ek_K_night (i := 32) rfl) e_a8 ?_
      obtain ⟨o10, e_o10, h⟩ := Option.bind_eq_some_iff.mp h
      obtain ⟨p9, e_p9, h⟩ := Option.bind_eq_some_iff.mp h
      refine Sm_callV K (eok_i (eo ek_K_night (i := 33) rfl) rfl) cy_R_draw im_R_draw se_R_draw (lgm 532 (by decide +kernel) rfl) ⟨Nat.le_of_ble_eq_true rfl, Nat.le_of_ble_eq_true rfl⟩ (as := []) (b := a8) (st := []) (ob_e e_o10) (by decide) rfl rfl rfl rfl (Nat.le_of_ble_eq_true rfl) ⟨Nat.le_of_ble_eq_true rfl, Nat.le_of_ble_eq_true rfl⟩ (cn_R_draw e_p9) ?_
      refine Sm_eq (st1 := .int p9.1 :: []) (nc1 := 0) (ns1 := 0) rfl rfl rfl ?_
      refine Sm_run K ek_K_night 34 1 rfl ?_
      refine Sm_irem K (eok_i (eo ek_K_night (i := 35) rfl) rfl) (by decide) ?_
      refine Sm_run K ek_K_night 36 2 rfl ?_
      obtain ⟨a11, e_a11, h⟩ := Option.bind_eq_some_iff.mp h
      refine Sm_gr K (eo ek_K_night (i := 38) rfl) e_a11 ?_
      obtain ⟨a12, e_a12, h⟩ := Option.bind_eq_some_iff.mp h
      refine Sm_gr K (eo ek_K_night (i := 39) rfl) e_a12 ?_
      refine Sm_run K ek_K_night 40 1 rfl ?_
      obtain ⟨a13, e_a13, h⟩ := Option.bind_eq_some_iff.mp h
      refine Sm_gr K (eo ek_K_night (i := 41) rfl) e_a13 ?_
      obtain ⟨v14, e_v14, h⟩ := Option.bind_eq_some_iff.mp h
      refine Sm_gi K (eo ek_K_night (i := 42) rfl) e_v14 ?_
      refine Sm_run K ek_K_night 43 1 rfl ?_
      refine Sm_irem K (eok_i (eo ek_K_night (i := 44) rfl) rfl) (by decide) ?_
      refine Sm_run K ek_K_night 45 2 rfl ?_
      obtain ⟨p15, e_p15, h⟩ := Option.bind_eq_some_iff.mp h
      refine Sm_callS K (eok_i (eo ek_K_night (i := 47) rfl) rfl) cy_K_standOf st_K_standOf (lgm 254 (by decide +kernel) rfl) ⟨Nat.le_of_ble_eq_true rfl, Nat.le_of_ble_eq_true rfl⟩ (as := [.int (jrem p6.1 6), .int (jrem p9.1 16)]) (st := [.int (jrem v14 6), .ref a12]) rfl rfl rfl (Nat.le_of_ble_eq_true rfl) ⟨Nat.le_of_ble_eq_true rfl, Nat.le_of_ble_eq_true rfl⟩ (cn_K_standOf e_p15) ?_
      refine Sm_eq (st1 := .int p15.1 :: [.int (jrem v14 6), .ref a12]) (nc1 := 0) (ns1 := 0) rfl rfl rfl ?_
      obtain ⟨w16, e_w16, h⟩ := Option.bind_eq_some_iff.mp h
      refine Sm_wr K (eok_i (eo ek_K_night (i := 48) rfl) rfl) e_w16 ?_
      refine Sm_run K ek_K_night 49 1 rfl ?_
      obtain ⟨a17, e_a17, h⟩ := Option.bind_eq_some_iff.mp h
      refine Sm_gr K (eo ek_K_night (i := 50) rfl) e_a17 ?_
      refine Sm_run K ek_K_night 51 1 rfl ?_
      obtain ⟨o19, e_o19, h⟩ := Option.bind_eq_some_iff.mp h
      obtain ⟨p18, e_p18, h⟩ := Option.bind_eq_some_iff.mp h
      refine Sm_callV K (eok_i (eo ek_K_night (i := 52) rfl) rfl) cy_R_passDays im_R_passDays se_R_passDays (lgm 367 (by decide +kernel) rfl) ⟨Nat.le_of_ble_eq_true rfl, Nat.le_of_ble_eq_true rfl⟩ (as := [.int 1]) (b := a17) (st := []) (ob_e e_o19) (by decide) rfl rfl rfl rfl (Nat.le_of_ble_eq_true rfl) ⟨Nat.le_of_ble_eq_true rfl, Nat.le_of_ble_eq_true rfl⟩ (cn_R_passDays e_p18) ?_
      refine Sm_eq (st1 := []) (nc1 := 0) (ns1 := 0) rfl rfl rfl ?_
      refine Sm_run K ek_K_night 53 2 rfl ?_
      exact Sm_le (leR_s (leR_s (leR_s (leR_n (leR_n leR_nil))))) (ih _ _ _ _ h)
set_option maxHeartbeats 4000000 in
set_option maxRecDepth 100000 in
theorem s_K_night_0 {G : Gx} {X : Cx} {res : Int32 × A_W} (K : Ok G X 0 c_K_night 5 (some .int) rm_K_night) (hQ : QQ G X (some (.int res.1)) res.2 0 0) (t : Nat) (x1 : Int32) (w : A_W) (h : F_K_night_0 t x1 w = some res) : Sm G X w 0 0 [some (.ref t), some (.int x1), none, none, none] [] 0 := by
  unfold F_K_night_0 at h
  refine Sm_run K ek_K_night 0 3 rfl ?_
  obtain ⟨p1, e_p1, h⟩ := Option.bind_eq_some_iff.mp h
  refine Sm_callS K (eok_i (eo ek_K_night (i := 3) rfl) rfl) cy_K_within st_K_within (lgm 243 (by decide +kernel) rfl) ⟨Nat.le_of_ble_eq_true rfl, Nat.le_of_ble_eq_true rfl⟩ (as := [.int x1, .int 1, .int 20]) (st := []) rfl rfl rfl (Nat.le_of_ble_eq_true rfl) ⟨Nat.le_of_ble_eq_true rfl, Nat.le_of_ble_eq_true rfl⟩ (cn_K_within e_p1) ?_
  refine Sm_eq (st1 := .int p1.1 :: []) (nc1 := 0) (ns1 := 0) rfl rfl rfl ?_
  refine Sm_if_ne K (eo ek_K_night (i := 4) rfl) (fun c2 => ?_) (fun c2 => ?_)
  · rw [if_neg c2] at h
    refine Sm_run K ek_K_night 9 1 rfl ?_
    obtain ⟨a3, e_a3, h⟩ := Option.bind_eq_some_iff.mp h
    refine Sm_gr K (eo ek_K_night (i := 10) rfl) e_a3 ?_
    obtain ⟨v4, e_v4, h⟩ := Option.bind_eq_some_iff.mp h
    refine Sm_gi K (eo ek_K_night (i := 11) rfl) e_v4 ?_
    refine Sm_run K ek_K_night 12 3 rfl ?_
    refine Sm_ic_le K (eo ek_K_night (i := 15) rfl) (fun c5 => ?_) (fun c5 => ?_)
    · rw [if_pos c5] at h
      refine Sm_run K ek_K_night 20 2 rfl ?_
      exact Sm_le (leR_s (leR_s (leR_s (leR_n (leR_n leR_nil))))) (s_K_night_38 K hQ FU _ _ _ _ h)
    · rw [if_neg c5] at h
      refine Sm_run K ek_K_night 16 2 rfl ?_
      obtain ⟨o7, e_o7, h⟩ := Option.bind_eq_some_iff.mp h
      obtain ⟨p6, e_p6, h⟩ := Option.bind_eq_some_iff.mp h
      refine Sm_callV K (eok_i (eo ek_K_night (i := 18) rfl) rfl) cy_K_finding im_K_finding se_K_finding (lgm 249 (by decide +kernel) rfl) ⟨Nat.le_of_ble_eq_true rfl, Nat.le_of_ble_eq_true rfl⟩ (as := [.int 4]) (b := t) (st := []) (ob_e e_o7) (by decide) rfl rfl rfl rfl (Nat.le_of_ble_eq_true rfl) ⟨Nat.le_of_ble_eq_true rfl, Nat.le_of_ble_eq_true rfl⟩ (cn_K_finding e_p6) ?_
      refine Sm_eq (st1 := .int p6.1 :: []) (nc1 := 0) (ns1 := 0) rfl rfl rfl ?_
      obtain rfl := Option.some.inj h
      exact Sm_reti K hQ (eok_i (eo ek_K_night (i := 19) rfl) rfl)
  · rw [if_pos c2] at h
    refine Sm_run K ek_K_night 5 2 rfl ?_
    obtain ⟨o9, e_o9, h⟩ := Option.bind_eq_some_iff.mp h
    obtain ⟨p8, e_p8, h⟩ := Option.bind_eq_some_iff.mp h
    refine Sm_callV K (eok_i (eo ek_K_night (i := 7) rfl) rfl) cy_K_finding im_K_finding se_K_finding (lgm 249 (by decide +kernel) rfl) ⟨Nat.le_of_ble_eq_true rfl, Nat.le_of_ble_eq_true rfl⟩ (as := [.int 0]) (b := t) (st := []) (ob_e e_o9) (by decide) rfl rfl rfl rfl (Nat.le_of_ble_eq_true rfl) ⟨Nat.le_of_ble_eq_true rfl, Nat.le_of_ble_eq_true rfl⟩ (cn_K_finding e_p8) ?_
    refine Sm_eq (st1 := .int p8.1 :: []) (nc1 := 0) (ns1 := 0) rfl rfl rfl ?_
    obtain rfl := Option.some.inj h
    exact Sm_reti K hQ (eok_i (eo ek_K_night (i := 8) rfl) rfl)
def F_K_night (t : Nat) (x1 : Int32) (w : A_W) : Option (Int32 × A_W) := F_K_night_0 t x1 w
theorem cn_K_night {G : Gx} {t : Nat} {x1 : Int32} {w : A_W} {res : Int32 × A_W} (h : F_K_night t x1 w = some res) : Cn G y_K_night c_K_night 5 (some .int) rm_K_night [.ref t, .int x1] w (some (.int res.1)) res.2 :=
  Cn_of (own := 0) cy_K_night rfl rfl (Nat.le_of_ble_eq_true rfl) rfl (fun X K _ hQ => Sm_le (leR_s (leR_s (leR_n (leR_n (leR_n leR_nil))))) (s_K_night_0 K hQ _ _ _ h))
/-! EveningCloak.power(II)J -/
abbrev c_K_power : ByteArray := prog_1_method_54_code
def y_K_power : MethodName := ⟨"EveningCloak", "power", "(II)J"⟩
def rm_K_power : Room := { frames := 0, cells := 0, slots := 0, locals := 0 }
theorem cy_K_power : Cy y_K_power c_K_power 5 (some .long) 2 := ⟨lgm 543 (by decide +kernel) rfl, lgm 68 (by decide +kernel) rfl, by decide +kernel, by decide +kernel⟩
theorem st_K_power : Cond.static y_K_power ∈ lg := lgm 542 (by decide +kernel) rfl
def e_K_power : List Ent := [
  (0, .lconst 1, 1, 1, .long 1, 0, 0, 0),
  (1, .lstore_n 2, 1, 2, .null, 0, 0, 0),
  (2, .iconst 0, 1, 3, .int 0, 0, 0, 0),
  (3, .istore 4, 2, 5, .null, 0, 0, 0),
  (5, .iload 4, 2, 7, .null, 0, 0, 0),
  (7, .iload_n 1, 1, 8, .null, 0, 0, 0),
  (8, .if_icmp .ge 14, 3, 22, .null, 0, 0, 0),
  (11, .lload_n 2, 1, 12, .null, 0, 0, 0),
  (12, .iload_n 0, 1, 13, .null, 0, 0, 0),
  (13, .i2l, 1, 14, .null, 0, 0, 0),
  (14, .lmul, 1, 15, .null, 0, 0, 0),
  (15, .lstore_n 2, 1, 16, .null, 0, 0, 0),
  (16, .iinc 4 1, 3, 19, .int 1, 0, 0, 0),
  (19, .goto (-14), 3, 5, .null, 0, 0, 0),
  (22, .lload_n 2, 1, 23, .null, 0, 0, 0),
  (23, .lreturn, 1, 24, .null, 0, 0, 0)]
set_option maxRecDepth 100000 in
theorem ek_K_power : e_K_power.all (eok 0 c_K_power) = true := by decide +kernel
def F_K_power_5 : Nat → Int32 → Int32 → Int64 → Int32 → A_W → Option (Int64 × A_W)
  | 0, _, _, _, _, _ => none
  | n + 1, x0, x1, x2, x4, w =>
    if x1 ≤ x4 then
      some (x2, w)
    else
      F_K_power_5 n x0 x1 (x2 * (Int32.toInt64 x0)) (x4 + 1) w
def F_K_power_0 (x0 : Int32) (x1 : Int32) (w : A_W) : Option (Int64 × A_W) :=
  F_K_power_5 FU x0 x1 1 0 w
set_option maxHeartbeats 4000000 in
set_option maxRecDepth 100000 in
theorem s_K_power_5 {G : Gx} {X : Cx} {res : Int64 × A_W} (K : Ok G X 0 c_K_power 5 (some .long) rm_K_power) (hQ : QQ G X (some (.long res.1)) res.2 0 0) : ∀ (n : Nat) (x0 : Int32) (x1 : Int32) (x2 : Int64) (x4 : Int32) (w : A_W), F_K_power_5 n x0 x1 x2 x4 w = some res → Sm G X w 0 0 [some (.int x0), some (.int x1), some (.long x2), none, some (.int x4)] [] 5 := by
  intro n
  induction n with
  | zero => intro x0 x1 x2 x4 w h; cases h
  | succ n ih =>
    intro x0 x1 x2 x4 w h
    rw [F_K_power_5] at h
    refine Sm_run K ek_K_power 4 2 rfl ?_
    refine Sm_ic_ge K (eo ek_K_power (i := 6) rfl) (fun c1 => ?_) (fun c1 => ?_)
    · rw [if_pos c1] at h
      refine Sm_run K ek_K_power 14 1 rfl ?_
      obtain rfl := Option.some.inj h
      exact Sm_retl K hQ (eok_i (eo ek_K_power (i := 15) rfl) rfl)
    · rw [if_neg c1] at h
      refine Sm_run K ek_K_power 7 7 rfl ?_
      exact Sm_le (leR_s (leR_s (leR_s (leR_n (leR_s leR_nil))))) (ih _ _ _ _ _ h)
set_option maxHeartbeats 4000000 in
set_option maxRecDepth 100000 in
theorem s_K_power_0 {G : Gx} {X : Cx} {res : Int64 × A_W} (K : Ok G X 0 c_K_power 5 (some .long) rm_K_power) (hQ : QQ G X (some (.long res.1)) res.2 0 0) (x0 : Int32) (x1 : Int32) (w : A_W) (h : F_K_power_0 x0 x1 w = some res) : Sm G X w 0 0 [some (.int x0), some (.int x1), none, none, none] [] 0 := by
  unfold F_K_power_0 at h
  refine Sm_run K ek_K_power 0 4 rfl ?_
  exact Sm_le (leR_s (leR_s (leR_s (leR_n (leR_s leR_nil))))) (s_K_power_5 K hQ FU _ _ _ _ _ h)
def F_K_power (x0 : Int32) (x1 : Int32) (w : A_W) : Option (Int64 × A_W) := F_K_power_0 x0 x1 w
theorem cn_K_power {G : Gx} {x0 : Int32} {x1 : Int32} {w : A_W} {res : Int64 × A_W} (h : F_K_power x0 x1 w = some res) : Cn G y_K_power c_K_power 5 (some .long) rm_K_power [.int x0, .int x1] w (some (.long res.1)) res.2 :=
  Cn_of (own := 0) cy_K_power rfl rfl (Nat.le_of_ble_eq_true rfl) rfl (fun X K _ hQ => Sm_le (leR_s (leR_s (leR_n (leR_n (leR_n leR_nil))))) (s_K_power_0 K hQ _ _ _ h))
/-! EveningCloak.odds(II)J -/
abbrev c_K_odds : ByteArray := prog_1_method_28_code
def y_K_odds : MethodName := ⟨"EveningCloak", "odds", "(II)J"⟩
def rm_K_odds : Room := { frames := 4, cells := 0, slots := 0, locals := 90 }
theorem cy_K_odds : Cy y_K_odds c_K_odds 6 (some .long) 2 := ⟨lgm 540 (by decide +kernel) rfl, lgm 68 (by decide +kernel) rfl, by decide +kernel, by decide +kernel⟩
theorem im_K_odds : Cond.instanceMethod y_K_odds ∈ lg := lgm 538 (by decide +kernel) rfl
theorem se_K_odds : Cond.selects y_K_odds.cls y_K_odds y_K_odds ∈ lg := lgm 539 (by decide +kernel) rfl
def e_K_odds : List Ent := [
  (0, .iload_n 1, 1, 1, .null, 0, 0, 0),
  (1, .iconst 0, 1, 2, .int 0, 0, 0, 0),
  (2, .bipush 15, 2, 4, .int 15, 0, 0, 0),
  (4, .invokestatic 40, 3, 7, .null, 0, 0, 0),
  (7, .ifCond .eq 12, 3, 19, .null, 0, 0, 0),
  (10, .iload_n 2, 1, 11, .null, 0, 0, 0),
  (11, .iconst 0, 1, 12, .int 0, 0, 0, 0),
  (12, .iconst 1, 1, 13, .int 1, 0, 0, 0),
  (13, .invokestatic 40, 3, 16, .null, 0, 0, 0),
  (16, .ifCond .ne 10, 3, 26, .null, 0, 0, 0),
  (19, .aload_n 0, 1, 20, .null, 0, 0, 0),
  (20, .iconst 0, 1, 21, .int 0, 0, 0, 0),
  (21, .invokevirtual 48, 3, 24, .null, 0, 0, 0),
  (24, .i2l, 1, 25, .null, 0, 0, 0),
  (25, .lreturn, 1, 26, .null, 0, 0, 0),
  (26, .bipush 16, 2, 28, .int 16, 0, 0, 0),
  (28, .aload_n 0, 1, 29, .null, 0, 0, 0),
  (29, .getfield 12, 3, 32, .null, 0, 0, 217),
  (32, .invokevirtual 127, 3, 35, .null, 0, 0, 0),
  (35, .invokestatic 159, 3, 38, .null, 0, 0, 0),
  (38, .isub, 1, 39, .null, 0, 0, 0),
  (39, .istore_n 3, 1, 40, .null, 0, 0, 0),
  (40, .bipush 16, 2, 42, .int 16, 0, 0, 0),
  (42, .istore 4, 2, 44, .null, 0, 0, 0),
  (44, .iconst 0, 1, 45, .int 0, 0, 0, 0),
  (45, .istore 5, 2, 47, .null, 0, 0, 0),
  (47, .iload 5, 2, 49, .null, 0, 0, 0),
  (49, .iconst 4, 1, 50, .int 4, 0, 0, 0),
  (50, .if_icmp .ge 25, 3, 75, .null, 0, 0, 0),
  (53, .iload_n 3, 1, 54, .null, 0, 0, 0),
  (54, .iconst 2, 1, 55, .int 2, 0, 0, 0),
  (55, .irem, 1, 56, .null, 0, 0, 0),
  (56, .ifCond .ne 19, 3, 75, .null, 0, 0, 0),
  (59, .iload_n 3, 1, 60, .null, 0, 0, 0),
  (60, .iconst 2, 1, 61, .int 2, 0, 0, 0),
  (61, .idiv, 1, 62, .null, 0, 0, 0),
  (62, .istore_n 3, 1, 63, .null, 0, 0, 0),
  (63, .iload 4, 2, 65, .null, 0, 0, 0),
  (65, .iconst 2, 1, 66, .int 2, 0, 0, 0),
  (66, .idiv, 1, 67, .null, 0, 0, 0),
  (67, .istore 4, 2, 69, .null, 0, 0, 0),
  (69, .iinc 5 1, 3, 72, .int 1, 0, 0, 0),
  (72, .goto (-25), 3, 47, .null, 0, 0, 0),
  (75, .iload_n 2, 1, 76, .null, 0, 0, 0),
  (76, .ifCond .ne 7, 3, 83, .null, 0, 0, 0),
  (79, .iload_n 3, 1, 80, .null, 0, 0, 0),
  (80, .goto 5, 3, 85, .null, 0, 0, 0),
  (83, .iload 4, 2, 85, .null, 0, 0, 0),
  (85, .iload_n 1, 1, 86, .null, 0, 0, 0),
  (86, .invokestatic 174, 3, 89, .null, 0, 0, 0),
  (89, .lreturn, 1, 90, .null, 0, 0, 0)]
set_option maxRecDepth 100000 in
theorem ek_K_odds : e_K_odds.all (eok 0 c_K_odds) = true := by decide +kernel
def F_K_odds_19 (t : Nat) (w : A_W) : Option (Int64 × A_W) :=
  (ob w t 0).bind fun o2 =>
  (F_K_finding t 0 w).bind fun p1 =>
  some ((Int32.toInt64 p1.1), p1.2)
def F_K_odds_85 (x1 : Int32) (y0 : Int32) (w : A_W) : Option (Int64 × A_W) :=
  (F_K_power y0 x1 w).bind fun p1 =>
  some (p1.1, p1.2)
def F_K_odds_75 (x1 : Int32) (x2 : Int32) (x3 : Int32) (x4 : Int32) (w : A_W) : Option (Int64 × A_W) :=
  if x2 = 0 then
    F_K_odds_85 x1 x3 w
  else
    F_K_odds_85 x1 x4 w
def F_K_odds_47 : Nat → Int32 → Int32 → Int32 → Int32 → Int32 → A_W → Option (Int64 × A_W)
  | 0, _, _, _, _, _, _ => none
  | n + 1, x1, x2, x3, x4, x5, w =>
    if 4 ≤ x5 then
      F_K_odds_75 x1 x2 x3 x4 w
    else
      if (jrem x3 2) = 0 then
        F_K_odds_47 n x1 x2 (x3 / 2) (x4 / 2) (x5 + 1) w
      else
        F_K_odds_75 x1 x2 x3 x4 w
def F_K_odds_0 (t : Nat) (x1 : Int32) (x2 : Int32) (w : A_W) : Option (Int64 × A_W) :=
  (F_K_within x1 0 15 w).bind fun p1 =>
  if p1.1 = 0 then
    F_K_odds_19 t p1.2
  else
    (F_K_within x2 0 1 p1.2).bind fun p3 =>
    if p3.1 = 0 then
      F_K_odds_19 t p3.2
    else
      (gr p3.2 t 0 0).bind fun a5 =>
      (ob p3.2 a5 2).bind fun o7 =>
      (F_R_darkHangers a5 p3.2).bind fun p6 =>
      (F_JI_bitCount p6.1 p6.2).bind fun p8 =>
      F_K_odds_47 FU x1 x2 (16 - p8.1) 16 0 p8.2
set_option maxHeartbeats 4000000 in
set_option maxRecDepth 100000 in
theorem s_K_odds_19 {G : Gx} {X : Cx} {res : Int64 × A_W} (K : Ok G X 0 c_K_odds 6 (some .long) rm_K_odds) (hQ : QQ G X (some (.long res.1)) res.2 0 0) (t : Nat) (w : A_W) (h : F_K_odds_19 t w = some res) : Sm G X w 0 0 [some (.ref t), none, none, none, none, none] [] 19 := by
  unfold F_K_odds_19 at h
  refine Sm_run K ek_K_odds 10 2 rfl ?_
  obtain ⟨o2, e_o2, h⟩ := Option.bind_eq_some_iff.mp h
  obtain ⟨p1, e_p1, h⟩ := Option.bind_eq_some_iff.mp h
  refine Sm_callV K (eok_i (eo ek_K_odds (i := 12) rfl) rfl) cy_K_finding im_K_finding se_K_finding (lgm 249 (by decide +kernel) rfl) ⟨Nat.le_of_ble_eq_true rfl, Nat.le_of_ble_eq_true rfl⟩ (as := [.int 0]) (b := t) (st := []) (ob_e e_o2) (by decide) rfl rfl rfl rfl (Nat.le_of_ble_eq_true rfl) ⟨Nat.le_of_ble_eq_true rfl, Nat.le_of_ble_eq_true rfl⟩ (cn_K_finding e_p1) ?_
  refine Sm_eq (st1 := .int p1.1 :: []) (nc1 := 0) (ns1 := 0) rfl rfl rfl ?_
  refine Sm_run K ek_K_odds 13 1 rfl ?_
  obtain rfl := Option.some.inj h
  exact Sm_retl K hQ (eok_i (eo ek_K_odds (i := 14) rfl) rfl)
set_option maxHeartbeats 4000000 in
set_option maxRecDepth 100000 in
theorem s_K_odds_85 {G : Gx} {X : Cx} {res : Int64 × A_W} (K : Ok G X 0 c_K_odds 6 (some .long) rm_K_odds) (hQ : QQ G X (some (.long res.1)) res.2 0 0) (x1 : Int32) (y0 : Int32) (w : A_W) (h : F_K_odds_85 x1 y0 w = some res) : Sm G X w 0 0 [none, some (.int x1), none, none, none, none] [.int y0] 85 := by
  unfold F_K_odds_85 at h
  refine Sm_run K ek_K_odds 48 1 rfl ?_
  obtain ⟨p1, e_p1, h⟩ := Option.bind_eq_some_iff.mp h
  refine Sm_callS K (eok_i (eo ek_K_odds (i := 49) rfl) rfl) cy_K_power st_K_power (lgm 541 (by decide +kernel) rfl) ⟨Nat.le_of_ble_eq_true rfl, Nat.le_of_ble_eq_true rfl⟩ (as := [.int y0, .int x1]) (st := []) rfl rfl rfl (Nat.le_of_ble_eq_true rfl) ⟨Nat.le_of_ble_eq_true rfl, Nat.le_of_ble_eq_true rfl⟩ (cn_K_power e_p1) ?_
  refine Sm_eq (st1 := .long p1.1 :: []) (nc1 := 0) (ns1 := 0) rfl rfl rfl ?_
  obtain rfl := Option.some.inj h
  exact Sm_retl K hQ (eok_i (eo ek_K_odds (i := 50) rfl) rfl)
set_option maxHeartbeats 4000000 in
set_option maxRecDepth 100000 in
theorem s_K_odds_75 {G : Gx} {X : Cx} {res : Int64 × A_W} (K : Ok G X 0 c_K_odds 6 (some .long) rm_K_odds) (hQ : QQ G X (some (.long res.1)) res.2 0 0) (x1 : Int32) (x2 : Int32) (x3 : Int32) (x4 : Int32) (w : A_W) (h : F_K_odds_75 x1 x2 x3 x4 w = some res) : Sm G X w 0 0 [none, some (.int x1), some (.int x2), some (.int x3), some (.int x4), none] [] 75 := by
  unfold F_K_odds_75 at h
  refine Sm_run K ek_K_odds 43 1 rfl ?_
  refine Sm_if_ne K (eo ek_K_odds (i := 44) rfl) (fun c1 => ?_) (fun c1 => ?_)
  · rw [if_neg c1] at h
    refine Sm_run K ek_K_odds 47 1 rfl ?_
    exact Sm_le (leR_n (leR_s (leR_n (leR_n (leR_n (leR_n leR_nil)))))) (s_K_odds_85 K hQ _ _ _ h)
  · rw [if_pos c1] at h
    refine Sm_run K ek_K_odds 45 2 rfl ?_
    exact Sm_le (leR_n (leR_s (leR_n (leR_n (leR_n (leR_n leR_nil)))))) (s_K_odds_85 K hQ _ _ _ h)
set_option maxHeartbeats 4000000 in
set_option maxRecDepth 100000 in
theorem s_K_odds_47 {G : Gx} {X : Cx} {res : Int64 × A_W} (K : Ok G X 0 c_K_odds 6 (some .long) rm_K_odds) (hQ : QQ G X (some (.long res.1)) res.2 0 0) : ∀ (n : Nat) (x1 : Int32) (x2 : Int32) (x3 : Int32) (x4 : Int32) (x5 : Int32) (w : A_W), F_K_odds_47 n x1 x2 x3 x4 x5 w = some res → Sm G X w 0 0 [none, some (.int x1), some (.int x2), some (.int x3), some (.int x4), some (.int x5)] [] 47 := by
  intro n
  induction n with
  | zero => intro x1 x2 x3 x4 x5 w h; cases h
  | succ n ih =>
    intro x1 x2 x3 x4 x5 w h
    rw [F_K_odds_47] at h
    refine Sm_run K ek_K_odds 26 2 rfl ?_
    refine Sm_ic_ge K (eo ek_K_odds (i := 28) rfl) (fun c1 => ?_) (fun c1 => ?_)
    · rw [if_pos c1] at h
      exact Sm_le (leR_n (leR_s (leR_s (leR_s (leR_s (leR_n leR_nil)))))) (s_K_odds_75 K hQ _ _ _ _ _ h)
    · rw [if_neg c1] at h
      refine Sm_run K ek_K_odds 29 2 rfl ?_
      refine Sm_irem K (eok_i (eo ek_K_odds (i := 31) rfl) rfl) (by decide) ?_
      refine Sm_if_ne K (eo ek_K_odds (i := 32) rfl) (fun c2 => ?_) (fun c2 => ?_)
      · rw [if_neg c2] at h
        exact Sm_le (leR_n (leR_s (leR_s (leR_s (leR_s (leR_n leR_nil)))))) (s_K_odds_75 K hQ _ _ _ _ _ h)
      · rw [if_pos c2] at h
        refine Sm_run K ek_K_odds 33 2 rfl ?_
        refine Sm_idiv K (eok_i (eo ek_K_odds (i := 35) rfl) rfl) (by decide) ?_
        refine Sm_run K ek_K_odds 36 3 rfl ?_
        refine Sm_idiv K (eok_i (eo ek_K_odds (i := 39) rfl) rfl) (by decide) ?_
        refine Sm_run K ek_K_odds 40 3 rfl ?_
        exact Sm_le (leR_n (leR_s (leR_s (leR_s (leR_s (leR_s leR_nil)))))) (ih _ _ _ _ _ _ h)
set_option maxHeartbeats 4000000 in
set_option maxRecDepth 100000 in
theorem s_K_odds_0 {G : Gx} {X : Cx} {res : Int64 × A_W} (K : Ok G X 0 c_K_odds 6 (some .long) rm_K_odds) (hQ : QQ G X (some (.long res.1)) res.2 0 0) (t : Nat) (x1 : Int32) (x2 : Int32) (w : A_W) (h : F_K_odds_0 t x1 x2 w = some res) : Sm G X w 0 0 [some (.ref t), some (.int x1), some (.int x2), none, none, none] [] 0 := by
  unfold F_K_odds_0 at h
  refine Sm_run K ek_K_odds 0 3 rfl ?_
  obtain ⟨p1, e_p1, h⟩ := Option.bind_eq_some_iff.mp h
  refine Sm_callS K (eok_i (eo ek_K_odds (i := 3) rfl) rfl) cy_K_within st_K_within (lgm 243 (by decide +kernel) rfl) ⟨Nat.le_of_ble_eq_true rfl, Nat.le_of_ble_eq_true rfl⟩ (as := [.int x1, .int 0, .int 15]) (st := []) rfl rfl rfl (Nat.le_of_ble_eq_true rfl) ⟨Nat.le_of_ble_eq_true rfl, Nat.le_of_ble_eq_true rfl⟩ (cn_K_within e_p1) ?_
  refine Sm_eq (st1 := .int p1.1 :: []) (nc1 := 0) (ns1 := 0) rfl rfl rfl ?_
  refine Sm_if_eq K (eo ek_K_odds (i := 4) rfl) (fun c2 => ?_) (fun c2 => ?_)
  · rw [if_pos c2] at h
    exact Sm_le (leR_s (leR_n (leR_n (leR_n (leR_n (leR_n leR_nil)))))) (s_K_odds_19 K hQ _ _ h)
  · rw [if_neg c2] at h
    refine Sm_run K ek_K_odds 5 3 rfl ?_
    obtain ⟨p3, e_p3, h⟩ := Option.bind_eq_some_iff.mp h
    refine Sm_callS K (eok_i (eo ek_K_odds (i := 8) rfl) rfl) cy_K_within st_K_within (lgm 243 (by decide +kernel) rfl) ⟨Nat.le_of_ble_eq_true rfl, Nat.le_of_ble_eq_true rfl⟩ (as := [.int x2, .int 0, .int 1]) (st := []) rfl rfl rfl (Nat.le_of_ble_eq_true rfl) ⟨Nat.le_of_ble_eq_true rfl, Nat.le_of_ble_eq_true rfl⟩ (cn_K_within e_p3) ?_
    refine Sm_eq (st1 := .int p3.1 :: []) (nc1 := 0) (ns1 := 0) rfl rfl rfl ?_
    refine Sm_if_ne K (eo ek_K_odds (i := 9) rfl) (fun c4 => ?_) (fun c4 => ?_)
    · rw [if_neg c4] at h
      refine Sm_run K ek_K_odds 15 2 rfl ?_
      obtain ⟨a5, e_a5, h⟩ := Option.bind_eq_some_iff.mp h
      refine Sm_gr K (eo ek_K_odds (i := 17) rfl) e_a5 ?_
      obtain ⟨o7, e_o7, h⟩ := Option.bind_eq_some_iff.mp h
      obtain ⟨p6, e_p6, h⟩ := Option.bind_eq_some_iff.mp h
      refine Sm_callV K (eok_i (eo ek_K_odds (i := 18) rfl) rfl) cy_R_darkHangers im_R_darkHangers se_R_darkHangers (lgm 396 (by decide +kernel) rfl) ⟨Nat.le_of_ble_eq_true rfl, Nat.le_of_ble_eq_true rfl⟩ (as := []) (b := a5) (st := [.int 16]) (ob_e e_o7) (by decide) rfl rfl rfl rfl (Nat.le_of_ble_eq_true rfl) ⟨Nat.le_of_ble_eq_true rfl, Nat.le_of_ble_eq_true rfl⟩ (cn_R_darkHangers e_p6) ?_
      refine Sm_eq (st1 := .int p6.1 :: [.int 16]) (nc1 := 0) (ns1 := 0) rfl rfl rfl ?_
      obtain ⟨p8, e_p8, h⟩ := Option.bind_eq_some_iff.mp h
      refine Sm_callS K (eok_i (eo ek_K_odds (i := 19) rfl) rfl) cy_JI_bitCount st_JI_bitCount (lgm 494 (by decide +kernel) rfl) ⟨Nat.le_of_ble_eq_true rfl, Nat.le_of_ble_eq_true rfl⟩ (as := [.int p6.1]) (st := [.int 16]) rfl rfl rfl (Nat.le_of_ble_eq_true rfl) ⟨Nat.le_of_ble_eq_true rfl, Nat.le_of_ble_eq_true rfl⟩ (cn_JI_bitCount e_p8) ?_
      refine Sm_eq (st1 := .int p8.1 :: [.int 16]) (nc1 := 0) (ns1 := 0) rfl rfl rfl ?_
      refine Sm_run K ek_K_odds 20 6 rfl ?_
      exact Sm_le (leR_n (leR_s (leR_s (leR_s (leR_s (leR_s leR_nil)))))) (s_K_odds_47 K hQ FU _ _ _ _ _ _ h)
    · rw [if_pos c4] at h
      exact Sm_le (leR_s (leR_n (leR_n (leR_n (leR_n (leR_n leR_nil)))))) (s_K_odds_19 K hQ _ _ h)
def F_K_odds (t : Nat) (x1 : Int32) (x2 : Int32) (w : A_W) : Option (Int64 × A_W) := F_K_odds_0 t x1 x2 w
theorem cn_K_odds {G : Gx} {t : Nat} {x1 : Int32} {x2 : Int32} {w : A_W} {res : Int64 × A_W} (h : F_K_odds t x1 x2 w = some res) : Cn G y_K_odds c_K_odds 6 (some .long) rm_K_odds [.ref t, .int x1, .int x2] w (some (.long res.1)) res.2 :=
  Cn_of (own := 0) cy_K_odds rfl rfl (Nat.le_of_ble_eq_true rfl) rfl (fun X K _ hQ => Sm_le (leR_s (leR_s (leR_s (leR_n (leR_n (leR_n leR_nil)))))) (s_K_odds_0 K hQ _ _ _ _ h))
/-! EveningCloak.seed(I)I -/
abbrev c_K_seed : ByteArray := prog_1_method_29_code
def y_K_seed : MethodName := ⟨"EveningCloak", "seed", "(I)I"⟩
def rm_K_seed : Room := { frames := 0, cells := 0, slots := 0, locals := 0 }
theorem cy_K_seed : Cy y_K_seed c_K_seed 3 (some .int) 1 := ⟨lgm 547 (by decide +kernel) rfl, lgm 68 (by decide +kernel) rfl, by decide +kernel, by decide +kernel⟩
theorem im_K_seed : Cond.instanceMethod y_K_seed ∈ lg := lgm 545 (by decide +kernel) rfl
theorem se_K_seed : Cond.selects y_K_seed.cls y_K_seed y_K_seed ∈ lg := lgm 546 (by decide +kernel) rfl
def e_K_seed : List Ent := [
  (0, .aload_n 0, 1, 1, .null, 0, 0, 0),
  (1, .getfield 12, 3, 4, .null, 0, 0, 217),
  (4, .getfield 178, 3, 7, .null, 2, 2, 103),
  (7, .istore_n 2, 1, 8, .null, 0, 0, 0),
  (8, .aload_n 0, 1, 9, .null, 0, 0, 0),
  (9, .getfield 12, 3, 12, .null, 0, 0, 217),
  (12, .iload_n 1, 1, 13, .null, 0, 0, 0),
  (13, .putfield 178, 3, 16, .null, 2, 2, 103),
  (16, .iload_n 2, 1, 17, .null, 0, 0, 0),
  (17, .ireturn, 1, 18, .null, 0, 0, 0)]
set_option maxRecDepth 100000 in
theorem ek_K_seed : e_K_seed.all (eok 0 c_K_seed) = true := by decide +kernel
def F_K_seed_0 (t : Nat) (x1 : Int32) (w : A_W) : Option (Int32 × A_W) :=
  (gr w t 0 0).bind fun a1 =>
  (gi w a1 2 2).bind fun v2 =>
  (gr w t 0 0).bind fun a3 =>
  (pf w a3 2 2 (.int x1)).bind fun w4 =>
  some (v2, w4)
set_option maxHeartbeats 4000000 in
set_option maxRecDepth 100000 in
theorem s_K_seed_0 {G : Gx} {X : Cx} {res : Int32 × A_W} (K : Ok G X 0 c_K_seed 3 (some .int) rm_K_seed) (hQ : QQ G X (some (.int res.1)) res.2 0 0) (t : Nat) (x1 : Int32) (w : A_W) (h : F_K_seed_0 t x1 w = some res) : Sm G X w 0 0 [some (.ref t), some (.int x1), none] [] 0 := by
  unfold F_K_seed_0 at h
  refine Sm_run K ek_K_seed 0 1 rfl ?_
  obtain ⟨a1, e_a1, h⟩ := Option.bind_eq_some_iff.mp h
  refine Sm_gr K (eo ek_K_seed (i := 1) rfl) e_a1 ?_
  obtain ⟨v2, e_v2, h⟩ := Option.bind_eq_some_iff.mp h
  refine Sm_gi K (eo ek_K_seed (i := 2) rfl) e_v2 ?_
  refine Sm_run K ek_K_seed 3 2 rfl ?_
  obtain ⟨a3, e_a3, h⟩ := Option.bind_eq_some_iff.mp h
  refine Sm_gr K (eo ek_K_seed (i := 5) rfl) e_a3 ?_
  refine Sm_run K ek_K_seed 6 1 rfl ?_
  obtain ⟨w4, e_w4, h⟩ := Option.bind_eq_some_iff.mp h
  refine Sm_pi K (eo ek_K_seed (i := 7) rfl) rfl rfl e_w4 ?_
  refine Sm_run K ek_K_seed 8 1 rfl ?_
  obtain rfl := Option.some.inj h
  exact Sm_reti K hQ (eok_i (eo ek_K_seed (i := 9) rfl) rfl)
def F_K_seed (t : Nat) (x1 : Int32) (w : A_W) : Option (Int32 × A_W) := F_K_seed_0 t x1 w
theorem cn_K_seed {G : Gx} {t : Nat} {x1 : Int32} {w : A_W} {res : Int32 × A_W} (h : F_K_seed t x1 w = some res) : Cn G y_K_seed c_K_seed 3 (some .int) rm_K_seed [.ref t, .int x1] w (some (.int res.1)) res.2 :=
  Cn_of (own := 0) cy_K_seed rfl rfl (Nat.le_of_ble_eq_true rfl) rfl (fun X K _ hQ => Sm_le (leR_s (leR_s (leR_n leR_nil))) (s_K_seed_0 K hQ _ _ _ h))
/-! EveningCloak$Reader.append(I)V -/
abbrev c_D_append : ByteArray := prog_2_method_2_code
def y_D_append : MethodName := ⟨"EveningCloak$Reader", "append", "(I)V"⟩
def rm_D_append : Room := { frames := 0, cells := 0, slots := 0, locals := 0 }
theorem cy_D_append : Cy y_D_append c_D_append 2 (none) 1 := ⟨lgm 555 (by decide +kernel) rfl, lgm 71 (by decide +kernel) rfl, by decide +kernel, by decide +kernel⟩
theorem im_D_append : Cond.instanceMethod y_D_append ∈ lg := lgm 553 (by decide +kernel) rfl
theorem se_D_append : Cond.selects y_D_append.cls y_D_append y_D_append ∈ lg := lgm 554 (by decide +kernel) rfl
def e_D_append : List Ent := [
  (0, .aload_n 0, 1, 1, .null, 0, 0, 0),
  (1, .getfield 9, 3, 4, .null, 1, 0, 177),
  (4, .aload_n 0, 1, 5, .null, 0, 0, 0),
  (5, .dup, 1, 6, .null, 0, 0, 0),
  (6, .getfield 15, 3, 9, .null, 1, 1, 178),
  (9, .dup_x1, 1, 10, .null, 0, 0, 0),
  (10, .iconst 1, 1, 11, .int 1, 0, 0, 0),
  (11, .iadd, 1, 12, .null, 0, 0, 0),
  (12, .putfield 15, 3, 15, .null, 1, 1, 178),
  (15, .iload_n 1, 1, 16, .null, 0, 0, 0),
  (16, .iastore, 1, 17, .null, 0, 0, 0),
  (17, .return_, 1, 18, .null, 0, 0, 0)]
set_option maxRecDepth 100000 in
theorem ek_D_append : e_D_append.all (eok 1 c_D_append) = true := by decide +kernel
def F_D_append_0 (t : Nat) (x1 : Int32) (w : A_W) : Option (A_W) :=
  (gr w t 1 0).bind fun a1 =>
  (gi w t 1 1).bind fun v2 =>
  (pf w t 1 1 (.int (v2 + 1))).bind fun w3 =>
  (wr w3 a1 v2 x1).bind fun w4 =>
  some w4
set_option maxHeartbeats 4000000 in
set_option maxRecDepth 100000 in
theorem s_D_append_0 {G : Gx} {X : Cx} {res : A_W} (K : Ok G X 1 c_D_append 2 (none) rm_D_append) (hQ : QQ G X none res 0 0) (t : Nat) (x1 : Int32) (w : A_W) (h : F_D_append_0 t x1 w = some res) : Sm G X w 0 0 [some (.ref t), some (.int x1)] [] 0 := by
  unfold F_D_append_0 at h
  refine Sm_run K ek_D_append 0 1 rfl ?_
  obtain ⟨a1, e_a1, h⟩ := Option.bind_eq_some_iff.mp h
  refine Sm_gr K (eo ek_D_append (i := 1) rfl) e_a1 ?_
  refine Sm_run K ek_D_append 2 2 rfl ?_
  obtain ⟨v2, e_v2, h⟩ := Option.bind_eq_some_iff.mp h
  refine Sm_gi K (eo ek_D_append (i := 4) rfl) e_v2 ?_
  refine Sm_run K ek_D_append 5 3 rfl ?_
  obtain ⟨w3, e_w3, h⟩ := Option.bind_eq_some_iff.mp h
  refine Sm_pi K (eo ek_D_append (i := 8) rfl) rfl rfl e_w3 ?_
  refine Sm_run K ek_D_append 9 1 rfl ?_
  obtain ⟨w4, e_w4, h⟩ := Option.bind_eq_some_iff.mp h
  refine Sm_wr K (eok_i (eo ek_D_append (i := 10) rfl) rfl) e_w4 ?_
  obtain rfl := Option.some.inj h
  exact Sm_retv K hQ (eok_i (eo ek_D_append (i := 11) rfl) rfl)
def F_D_append (t : Nat) (x1 : Int32) (w : A_W) : Option (A_W) := F_D_append_0 t x1 w
theorem cn_D_append {G : Gx} {t : Nat} {x1 : Int32} {w : A_W} {res : A_W} (h : F_D_append t x1 w = some res) : Cn G y_D_append c_D_append 2 (none) rm_D_append [.ref t, .int x1] w none res :=
  Cn_of (own := 1) cy_D_append rfl rfl (Nat.le_of_ble_eq_true rfl) rfl (fun X K _ hQ => Sm_le (leR_s (leR_s leR_nil)) (s_D_append_0 K hQ _ _ _ h))
/-! EveningCloak.feed(II)I -/
abbrev c_K_feed : ByteArray := prog_1_method_30_code
def y_K_feed : MethodName := ⟨"EveningCloak", "feed", "(II)I"⟩
def rm_K_feed : Room := { frames := 1, cells := 0, slots := 0, locals := 22 }
theorem cy_K_feed : Cy y_K_feed c_K_feed 4 (some .int) 2 := ⟨lgm 551 (by decide +kernel) rfl, lgm 68 (by decide +kernel) rfl, by decide +kernel, by decide +kernel⟩
theorem im_K_feed : Cond.instanceMethod y_K_feed ∈ lg := lgm 549 (by decide +kernel) rfl
theorem se_K_feed : Cond.selects y_K_feed.cls y_K_feed y_K_feed ∈ lg := lgm 550 (by decide +kernel) rfl
def e_K_feed : List Ent := [
  (0, .iload_n 2, 1, 1, .null, 0, 0, 0),
  (1, .iconst 1, 1, 2, .int 1, 0, 0, 0),
  (2, .iconst 4, 1, 3, .int 4, 0, 0, 0),
  (3, .invokestatic 40, 3, 6, .null, 0, 0, 0),
  (6, .ifCond .ne 9, 3, 15, .null, 0, 0, 0),
  (9, .aload_n 0, 1, 10, .null, 0, 0, 0),
  (10, .iconst 0, 1, 11, .int 0, 0, 0, 0),
  (11, .invokevirtual 48, 3, 14, .null, 0, 0, 0),
  (14, .ireturn, 1, 15, .null, 0, 0, 0),
  (15, .aload_n 0, 1, 16, .null, 0, 0, 0),
  (16, .getfield 25, 3, 19, .null, 0, 4, 221),
  (19, .getfield 181, 3, 22, .null, 1, 1, 179),
  (22, .iload_n 2, 1, 23, .null, 0, 0, 0),
  (23, .iadd, 1, 24, .null, 0, 0, 0),
  (24, .bipush 120, 2, 26, .int 120, 0, 0, 0),
  (26, .if_icmp .le 9, 3, 35, .null, 0, 0, 0),
  (29, .aload_n 0, 1, 30, .null, 0, 0, 0),
  (30, .iconst 1, 1, 31, .int 1, 0, 0, 0),
  (31, .invokevirtual 48, 3, 34, .null, 0, 0, 0),
  (34, .ireturn, 1, 35, .null, 0, 0, 0),
  (35, .iload_n 2, 1, 36, .null, 0, 0, 0),
  (36, .iconst 1, 1, 37, .int 1, 0, 0, 0),
  (37, .isub, 1, 38, .null, 0, 0, 0),
  (38, .istore_n 3, 1, 39, .null, 0, 0, 0),
  (39, .iload_n 3, 1, 40, .null, 0, 0, 0),
  (40, .ifCond .lt 26, 3, 66, .null, 0, 0, 0),
  (43, .aload_n 0, 1, 44, .null, 0, 0, 0),
  (44, .getfield 25, 3, 47, .null, 0, 4, 221),
  (47, .iload_n 1, 1, 48, .null, 0, 0, 0),
  (48, .bipush 8, 2, 50, .int 8, 0, 0, 0),
  (50, .iload_n 3, 1, 51, .null, 0, 0, 0),
  (51, .imul, 1, 52, .null, 0, 0, 0),
  (52, .iushr, 1, 53, .null, 0, 0, 0),
  (53, .sipush 255, 3, 56, .int 255, 0, 0, 0),
  (56, .iand, 1, 57, .null, 0, 0, 0),
  (57, .invokevirtual 184, 3, 60, .null, 0, 0, 0),
  (60, .iinc 3 (-1), 3, 63, .int (-1), 0, 0, 0),
  (63, .goto (-24), 3, 39, .null, 0, 0, 0),
  (66, .aload_n 0, 1, 67, .null, 0, 0, 0),
  (67, .getfield 25, 3, 70, .null, 0, 4, 221),
  (70, .getfield 181, 3, 73, .null, 1, 1, 179),
  (73, .ireturn, 1, 74, .null, 0, 0, 0)]
set_option maxRecDepth 100000 in
theorem ek_K_feed : e_K_feed.all (eok 0 c_K_feed) = true := by decide +kernel
def F_K_feed_39 : Nat → Nat → Int32 → Int32 → A_W → Option (Int32 × A_W)
  | 0, _, _, _, _ => none
  | n + 1, t, x1, x3, w =>
    if x3 < 0 then
      (gr w t 0 4).bind fun a2 =>
      (gi w a2 1 1).bind fun v3 =>
      some (v3, w)
    else
      (gr w t 0 4).bind fun a4 =>
      (ob w a4 1).bind fun o6 =>
      (F_D_append a4 ((Int32.toUInt32 x1 >>> (Int32.toUInt32 (8 * x3) &&& Int32.toUInt32 31)).toInt32 &&& 255) w).bind fun p5 =>
      F_K_feed_39 n t x1 (x3 + (-1)) p5
def F_K_feed_0 (t : Nat) (x1 : Int32) (x2 : Int32) (w : A_W) : Option (Int32 × A_W) :=
  (F_K_within x2 1 4 w).bind fun p1 =>
  if p1.1 = 0 then
    (ob p1.2 t 0).bind fun o9 =>
    (F_K_finding t 0 p1.2).bind fun p8 =>
    some (p8.1, p8.2)
  else
    (gr p1.2 t 0 4).bind fun a3 =>
    (gi p1.2 a3 1 1).bind fun v4 =>
    if (v4 + x2) ≤ 120 then
      F_K_feed_39 FU t x1 (x2 - 1) p1.2
    else
      (ob p1.2 t 0).bind fun o7 =>
      (F_K_finding t 1 p1.2).bind fun p6 =>
      some (p6.1, p6.2)
set_option maxHeartbeats 4000000 in
set_option maxRecDepth 100000 in
theorem s_K_feed_39 {G : Gx} {X : Cx} {res : Int32 × A_W} (K : Ok G X 0 c_K_feed 4 (some .int) rm_K_feed) (hQ : QQ G X (some (.int res.1)) res.2 0 0) : ∀ (n : Nat) (t : Nat) (x1 : Int32) (x3 : Int32) (w : A_W), F_K_feed_39 n t x1 x3 w = some res → Sm G X w 0 0 [some (.ref t), some (.int x1), none, some (.int x3)] [] 39 := by
  intro n
  induction n with
  | zero => intro t x1 x3 w h; cases h
  | succ n ih =>
    intro t x1 x3 w h
    rw [F_K_feed_39] at h
    refine Sm_run K ek_K_feed 24 1 rfl ?_
    refine Sm_if_lt K (eo ek_K_feed (i := 25) rfl) (fun c1 => ?_) (fun c1 => ?_)
    · rw [if_pos c1] at h
      refine Sm_run K ek_K_feed 38 1 rfl ?_
      obtain ⟨a2, e_a2, h⟩ := Option.bind_eq_some_iff.mp h
      refine Sm_gr K (eo ek_K_feed (i := 39) rfl) e_a2 ?_
      obtain ⟨v3, e_v3, h⟩ := Option.bind_eq_some_iff.mp h
      refine Sm_gi K (eo ek_K_feed (i := 40) rfl) e_v3 ?_
      obtain rfl := Option.some.inj h
      exact Sm_reti K hQ (eok_i (eo ek_K_feed (i := 41) rfl) rfl)
    · rw [if_neg c1] at h
      refine Sm_run K ek_K_feed 26 1 rfl ?_
      obtain ⟨a4, e_a4, h⟩ := Option.bind_eq_some_iff.mp h
      refine Sm_gr K (eo ek_K_feed (i := 27) rfl) e_a4 ?_
      refine Sm_run K ek_K_feed 28 7 rfl ?_
      obtain ⟨o6, e_o6, h⟩ := Option.bind_eq_some_iff.mp h
      obtain ⟨p5, e_p5, h⟩ := Option.bind_eq_some_iff.mp h
      refine Sm_callV K (eok_i (eo ek_K_feed (i := 35) rfl) rfl) cy_D_append im_D_append se_D_append (lgm 552 (by decide +kernel) rfl) ⟨Nat.le_of_ble_eq_true rfl, Nat.le_of_ble_eq_true rfl⟩ (as := [.int ((Int32.toUInt32 x1 >>> (Int32.toUInt32 (8 * x3) &&& Int32.toUInt32 31)).toInt32 &&& 255)]) (b := a4) (st := []) (ob_e e_o6) (by decide) rfl rfl rfl rfl (Nat.le_of_ble_eq_true rfl) ⟨Nat.le_of_ble_eq_true rfl, Nat.le_of_ble_eq_true rfl⟩ (cn_D_append e_p5) ?_
      refine Sm_eq (st1 := []) (nc1 := 0) (ns1 := 0) rfl rfl rfl ?_
      refine Sm_run K ek_K_feed 36 2 rfl ?_
      exact Sm_le (leR_s (leR_s (leR_n (leR_s leR_nil)))) (ih _ _ _ _ h)
set_option maxHeartbeats 4000000 in
set_option maxRecDepth 100000 in
theorem s_K_feed_0 {G : Gx} {X : Cx} {res : Int32 × A_W} (K : Ok G X 0 c_K_feed 4 (some .int) rm_K_feed) (hQ : QQ G X (some (.int res.1)) res.2 0 0) (t : Nat) (x1 : Int32) (x2 : Int32) (w : A_W) (h : F_K_feed_0 t x1 x2 w = some res) : Sm G X w 0 0 [some (.ref t), some (.int x1), some (.int x2), none] [] 0 := by
  unfold F_K_feed_0 at h
  refine Sm_run K ek_K_feed 0 3 rfl ?_
  obtain ⟨p1, e_p1, h⟩ := Option.bind_eq_some_iff.mp h
  refine Sm_callS K (eok_i (eo ek_K_feed (i := 3) rfl) rfl) cy_K_within st_K_within (lgm 243 (by decide +kernel) rfl) ⟨Nat.le_of_ble_eq_true rfl, Nat.le_of_ble_eq_true rfl⟩ (as := [.int x2, .int 1, .int 4]) (st := []) rfl rfl rfl (Nat.le_of_ble_eq_true rfl) ⟨Nat.le_of_ble_eq_true rfl, Nat.le_of_ble_eq_true rfl⟩ (cn_K_within e_p1) ?_
  refine Sm_eq (st1 := .int p1.1 :: []) (nc1 := 0) (ns1 := 0) rfl rfl rfl ?_
  refine Sm_if_ne K (eo ek_K_feed (i := 4) rfl) (fun c2 => ?_) (fun c2 => ?_)
  · rw [if_neg c2] at h
    refine Sm_run K ek_K_feed 9 1 rfl ?_
    obtain ⟨a3, e_a3, h⟩ := Option.bind_eq_some_iff.mp h
    refine Sm_gr K (eo ek_K_feed (i := 10) rfl) e_a3 ?_
    obtain ⟨v4, e_v4, h⟩ := Option.bind_eq_some_iff.mp h
    refine Sm_gi K (eo ek_K_feed (i := 11) rfl) e_v4 ?_
    refine Sm_run K ek_K_feed 12 3 rfl ?_
    refine Sm_ic_le K (eo ek_K_feed (i := 15) rfl) (fun c5 => ?_) (fun c5 => ?_)
    · rw [if_pos c5] at h
      refine Sm_run K ek_K_feed 20 4 rfl ?_
      exact Sm_le (leR_s (leR_s (leR_n (leR_s leR_nil)))) (s_K_feed_39 K hQ FU _ _ _ _ h)
    · rw [if_neg c5] at h
      refine Sm_run K ek_K_feed 16 2 rfl ?_
      obtain ⟨o7, e_o7, h⟩ := Option.bind_eq_some_iff.mp h
      obtain ⟨p6, e_p6, h⟩ := Option.bind_eq_some_iff.mp h
      refine Sm_callV K (eok_i (eo ek_K_feed (i := 18) rfl) rfl) cy_K_finding im_K_finding se_K_finding (lgm 249 (by decide +kernel) rfl) ⟨Nat.le_of_ble_eq_true rfl, Nat.le_of_ble_eq_true rfl⟩ (as := [.int 1]) (b := t) (st := []) (ob_e e_o7) (by decide) rfl rfl rfl rfl (Nat.le_of_ble_eq_true rfl) ⟨Nat.le_of_ble_eq_true rfl, Nat.le_of_ble_eq_true rfl⟩ (cn_K_finding e_p6) ?_
      refine Sm_eq (st1 := .int p6.1 :: []) (nc1 := 0) (ns1 := 0) rfl rfl rfl ?_
      obtain rfl := Option.some.inj h
      exact Sm_reti K hQ (eok_i (eo ek_K_feed (i := 19) rfl) rfl)
  · rw [if_pos c2] at h
    refine Sm_run K ek_K_feed 5 2 rfl ?_
    obtain ⟨o9, e_o9, h⟩ := Option.bind_eq_some_iff.mp h
    obtain ⟨p8, e_p8, h⟩ := Option.bind_eq_some_iff.mp h
    refine Sm_callV K (eok_i (eo ek_K_feed (i := 7) rfl) rfl) cy_K_finding im_K_finding se_K_finding (lgm 249 (by decide +kernel) rfl) ⟨Nat.le_of_ble_eq_true rfl, Nat.le_of_ble_eq_true rfl⟩ (as := [.int 0]) (b := t) (st := []) (ob_e e_o9) (by decide) rfl rfl rfl rfl (Nat.le_of_ble_eq_true rfl) ⟨Nat.le_of_ble_eq_true rfl, Nat.le_of_ble_eq_true rfl⟩ (cn_K_finding e_p8) ?_
    refine Sm_eq (st1 := .int p8.1 :: []) (nc1 := 0) (ns1 := 0) rfl rfl rfl ?_
    obtain rfl := Option.some.inj h
    exact Sm_reti K hQ (eok_i (eo ek_K_feed (i := 8) rfl) rfl)
def F_K_feed (t : Nat) (x1 : Int32) (x2 : Int32) (w : A_W) : Option (Int32 × A_W) := F_K_feed_0 t x1 x2 w
theorem cn_K_feed {G : Gx} {t : Nat} {x1 : Int32} {x2 : Int32} {w : A_W} {res : Int32 × A_W} (h : F_K_feed t x1 x2 w = some res) : Cn G y_K_feed c_K_feed 4 (some .int) rm_K_feed [.ref t, .int x1, .int x2] w (some (.int res.1)) res.2 :=
  Cn_of (own := 0) cy_K_feed rfl rfl (Nat.le_of_ble_eq_true rfl) rfl (fun X K _ hQ => Sm_le (leR_s (leR_s (leR_s (leR_n leR_nil)))) (s_K_feed_0 K hQ _ _ _ _ h))
/-! EveningCloak.wipe()I -/
abbrev c_K_wipe : ByteArray := prog_1_method_31_code
def y_K_wipe : MethodName := ⟨"EveningCloak", "wipe", "()I"⟩
def rm_K_wipe : Room := { frames := 0, cells := 0, slots := 0, locals := 0 }
theorem cy_K_wipe : Cy y_K_wipe c_K_wipe 2 (some .int) 0 := ⟨lgm 559 (by decide +kernel) rfl, lgm 68 (by decide +kernel) rfl, by decide +kernel, by decide +kernel⟩
theorem im_K_wipe : Cond.instanceMethod y_K_wipe ∈ lg := lgm 557 (by decide +kernel) rfl
theorem se_K_wipe : Cond.selects y_K_wipe.cls y_K_wipe y_K_wipe ∈ lg := lgm 558 (by decide +kernel) rfl
def e_K_wipe : List Ent := [
  (0, .aload_n 0, 1, 1, .null, 0, 0, 0),
  (1, .getfield 25, 3, 4, .null, 0, 4, 221),
  (4, .getfield 181, 3, 7, .null, 1, 1, 179),
  (7, .istore_n 1, 1, 8, .null, 0, 0, 0),
  (8, .aload_n 0, 1, 9, .null, 0, 0, 0),
  (9, .getfield 25, 3, 12, .null, 0, 4, 221),
  (12, .iconst 0, 1, 13, .int 0, 0, 0, 0),
  (13, .putfield 181, 3, 16, .null, 1, 1, 179),
  (16, .iload_n 1, 1, 17, .null, 0, 0, 0),
  (17, .ireturn, 1, 18, .null, 0, 0, 0)]
set_option maxRecDepth 100000 in
theorem ek_K_wipe : e_K_wipe.all (eok 0 c_K_wipe) = true := by decide +kernel
def F_K_wipe_0 (t : Nat) (w : A_W) : Option (Int32 × A_W) :=
  (gr w t 0 4).bind fun a1 =>
  (gi w a1 1 1).bind fun v2 =>
  (gr w t 0 4).bind fun a3 =>
  (pf w a3 1 1 (.int 0)).bind fun w4 =>
  some (v2, w4)
set_option maxHeartbeats 4000000 in
set_option maxRecDepth 100000 in
theorem s_K_wipe_0 {G : Gx} {X : Cx} {res : Int32 × A_W} (K : Ok G X 0 c_K_wipe 2 (some .int) rm_K_wipe) (hQ : QQ G X (some (.int res.1)) res.2 0 0) (t : Nat) (w : A_W) (h : F_K_wipe_0 t w = some res) : Sm G X w 0 0 [some (.ref t), none] [] 0 := by
  unfold F_K_wipe_0 at h
  refine Sm_run K ek_K_wipe 0 1 rfl ?_
  obtain ⟨a1, e_a1, h⟩ := Option.bind_eq_some_iff.mp h
  refine Sm_gr K (eo ek_K_wipe (i := 1) rfl) e_a1 ?_
  obtain ⟨v2, e_v2, h⟩ := Option.bind_eq_some_iff.mp h
  refine Sm_gi K (eo ek_K_wipe (i := 2) rfl) e_v2 ?_
  refine Sm_run K ek_K_wipe 3 2 rfl ?_
  obtain ⟨a3, e_a3, h⟩ := Option.bind_eq_some_iff.mp h
  refine Sm_gr K (eo ek_K_wipe (i := 5) rfl) e_a3 ?_
  refine Sm_run K ek_K_wipe 6 1 rfl ?_
  obtain ⟨w4, e_w4, h⟩ := Option.bind_eq_some_iff.mp h
  refine Sm_pi K (eo ek_K_wipe (i := 7) rfl) rfl rfl e_w4 ?_
  refine Sm_run K ek_K_wipe 8 1 rfl ?_
  obtain rfl := Option.some.inj h
  exact Sm_reti K hQ (eok_i (eo ek_K_wipe (i := 9) rfl) rfl)
def F_K_wipe (t : Nat) (w : A_W) : Option (Int32 × A_W) := F_K_wipe_0 t w
theorem cn_K_wipe {G : Gx} {t : Nat} {w : A_W} {res : Int32 × A_W} (h : F_K_wipe t w = some res) : Cn G y_K_wipe c_K_wipe 2 (some .int) rm_K_wipe [.ref t] w (some (.int res.1)) res.2 :=
  Cn_of (own := 0) cy_K_wipe rfl rfl (Nat.le_of_ble_eq_true rfl) rfl (fun X K _ hQ => Sm_le (leR_s (leR_n leR_nil)) (s_K_wipe_0 K hQ _ _ h))
/-! EveningCloak$Reader.isLetter(I)Z -/
abbrev c_D_isLetter : ByteArray := prog_2_method_12_code
def y_D_isLetter : MethodName := ⟨"EveningCloak$Reader", "isLetter", "(I)Z"⟩
def rm_D_isLetter : Room := { frames := 0, cells := 0, slots := 0, locals := 0 }
theorem cy_D_isLetter : Cy y_D_isLetter c_D_isLetter 1 (some .boolean) 1 := ⟨lgm 574 (by decide +kernel) rfl, lgm 71 (by decide +kernel) rfl, by decide +kernel, by decide +kernel⟩
theorem st_D_isLetter : Cond.static y_D_isLetter ∈ lg := lgm 573 (by decide +kernel) rfl
def e_D_isLetter : List Ent := [
  (0, .iload_n 0, 1, 1, .null, 0, 0, 0),
  (1, .bipush 97, 2, 3, .int 97, 0, 0, 0),
  (3, .if_icmp .lt 13, 3, 16, .null, 0, 0, 0),
  (6, .iload_n 0, 1, 7, .null, 0, 0, 0),
  (7, .bipush 122, 2, 9, .int 122, 0, 0, 0),
  (9, .if_icmp .gt 7, 3, 16, .null, 0, 0, 0),
  (12, .iconst 1, 1, 13, .int 1, 0, 0, 0),
  (13, .goto 4, 3, 17, .null, 0, 0, 0),
  (16, .iconst 0, 1, 17, .int 0, 0, 0, 0),
  (17, .ireturn, 1, 18, .null, 0, 0, 0)]
set_option maxRecDepth 100000 in
theorem ek_D_isLetter : e_D_isLetter.all (eok 1 c_D_isLetter) = true := by decide +kernel
def F_D_isLetter_17 (y0 : Int32) (w : A_W) : Option (Int32 × A_W) :=
  (bz y0).bind fun b1 =>
  some (b1, w)
def F_D_isLetter_16 (w : A_W) : Option (Int32 × A_W) :=
  F_D_isLetter_17 0 w
def F_D_isLetter_0 (x0 : Int32) (w : A_W) : Option (Int32 × A_W) :=
  if x0 < 97 then
    F_D_isLetter_16 w
  else
    if 122 < x0 then
      F_D_isLetter_16 w
    else
      F_D_isLetter_17 1 w
set_option maxHeartbeats 4000000 in
set_option maxRecDepth 100000 in
theorem s_D_isLetter_17 {G : Gx} {X : Cx} {res : Int32 × A_W} (K : Ok G X 1 c_D_isLetter 1 (some .boolean) rm_D_isLetter) (hQ : QQ G X (some (.int res.1)) res.2 0 0) (y0 : Int32) (w : A_W) (h : F_D_isLetter_17 y0 w = some res) : Sm G X w 0 0 [none] [.int y0] 17 := by
  unfold F_D_isLetter_17 at h
  obtain ⟨b1, e_b1, h⟩ := Option.bind_eq_some_iff.mp h
  obtain rfl := Option.some.inj h
  exact Sm_retz K e_b1 hQ (eok_i (eo ek_D_isLetter (i := 9) rfl) rfl)
set_option maxHeartbeats 4000000 in
set_option maxRecDepth 100000 in
theorem s_D_isLetter_16 {G : Gx} {X : Cx} {res : Int32 × A_W} (K : Ok G X 1 c_D_isLetter 1 (some .boolean) rm_D_isLetter) (hQ : QQ G X (some (.int res.1)) res.2 0 0) (w : A_W) (h : F_D_isLetter_16 w = some res) : Sm G X w 0 0 [none] [] 16 := by
  unfold F_D_isLetter_16 at h
  refine Sm_run K ek_D_isLetter 8 1 rfl ?_
  exact Sm_le (leR_n leR_nil) (s_D_isLetter_17 K hQ _ _ h)
set_option maxHeartbeats 4000000 in
set_option maxRecDepth 100000 in
theorem s_D_isLetter_0 {G : Gx} {X : Cx} {res : Int32 × A_W} (K : Ok G X 1 c_D_isLetter 1 (some .boolean) rm_D_isLetter) (hQ : QQ G X (some (.int res.1)) res.2 0 0) (x0 : Int32) (w : A_W) (h : F_D_isLetter_0 x0 w = some res) : Sm G X w 0 0 [some (.int x0)] [] 0 := by
  unfold F_D_isLetter_0 at h
  refine Sm_run K ek_D_isLetter 0 2 rfl ?_
  refine Sm_ic_lt K (eo ek_D_isLetter (i := 2) rfl) (fun c1 => ?_) (fun c1 => ?_)
  · rw [if_pos c1] at h
    exact Sm_le (leR_n leR_nil) (s_D_isLetter_16 K hQ _ h)
  · rw [if_neg c1] at h
    refine Sm_run K ek_D_isLetter 3 2 rfl ?_
    refine Sm_ic_gt K (eo ek_D_isLetter (i := 5) rfl) (fun c2 => ?_) (fun c2 => ?_)
    · rw [if_pos c2] at h
      exact Sm_le (leR_n leR_nil) (s_D_isLetter_16 K hQ _ h)
    · rw [if_neg c2] at h
      refine Sm_run K ek_D_isLetter 6 2 rfl ?_
      exact Sm_le (leR_n leR_nil) (s_D_isLetter_17 K hQ _ _ h)
def F_D_isLetter (x0 : Int32) (w : A_W) : Option (Int32 × A_W) := F_D_isLetter_0 x0 w
theorem cn_D_isLetter {G : Gx} {x0 : Int32} {w : A_W} {res : Int32 × A_W} (h : F_D_isLetter x0 w = some res) : Cn G y_D_isLetter c_D_isLetter 1 (some .boolean) rm_D_isLetter [.int x0] w (some (.int res.1)) res.2 :=
  Cn_of (own := 1) cy_D_isLetter rfl rfl (Nat.le_of_ble_eq_true rfl) rfl (fun X K _ hQ => Sm_le (leR_s leR_nil) (s_D_isLetter_0 K hQ _ _ h))
/-! EveningCloak$Reader.isDigit(I)Z -/
abbrev c_D_isDigit : ByteArray := prog_2_method_13_code
def y_D_isDigit : MethodName := ⟨"EveningCloak$Reader", "isDigit", "(I)Z"⟩
def rm_D_isDigit : Room := { frames := 0, cells := 0, slots := 0, locals := 0 }
theorem cy_D_isDigit : Cy y_D_isDigit c_D_isDigit 1 (some .boolean) 1 := ⟨lgm 577 (by decide +kernel) rfl, lgm 71 (by decide +kernel) rfl, by decide +kernel, by decide +kernel⟩
theorem st_D_isDigit : Cond.static y_D_isDigit ∈ lg := lgm 576 (by decide +kernel) rfl
def e_D_isDigit : List Ent := [
  (0, .iload_n 0, 1, 1, .null, 0, 0, 0),
  (1, .bipush 48, 2, 3, .int 48, 0, 0, 0),
  (3, .if_icmp .lt 13, 3, 16, .null, 0, 0, 0),
  (6, .iload_n 0, 1, 7, .null, 0, 0, 0),
  (7, .bipush 57, 2, 9, .int 57, 0, 0, 0),
  (9, .if_icmp .gt 7, 3, 16, .null, 0, 0, 0),
  (12, .iconst 1, 1, 13, .int 1, 0, 0, 0),
  (13, .goto 4, 3, 17, .null, 0, 0, 0),
  (16, .iconst 0, 1, 17, .int 0, 0, 0, 0),
  (17, .ireturn, 1, 18, .null, 0, 0, 0)]
set_option maxRecDepth 100000 in
theorem ek_D_isDigit : e_D_isDigit.all (eok 1 c_D_isDigit) = true := by decide +kernel
def F_D_isDigit_17 (y0 : Int32) (w : A_W) : Option (Int32 × A_W) :=
  (bz y0).bind fun b1 =>
  some (b1, w)
def F_D_isDigit_16 (w : A_W) : Option (Int32 × A_W) :=
  F_D_isDigit_17 0 w
def F_D_isDigit_0 (x0 : Int32) (w : A_W) : Option (Int32 × A_W) :=
  if x0 < 48 then
    F_D_isDigit_16 w
  else
    if 57 < x0 then
      F_D_isDigit_16 w
    else
      F_D_isDigit_17 1 w
set_option maxHeartbeats 4000000 in
set_option maxRecDepth 100000 in
theorem s_D_isDigit_17 {G : Gx} {X : Cx} {res : Int32 × A_W} (K : Ok G X 1 c_D_isDigit 1 (some .boolean) rm_D_isDigit) (hQ : QQ G X (some (.int res.1)) res.2 0 0) (y0 : Int32) (w : A_W) (h : F_D_isDigit_17 y0 w = some res) : Sm G X w 0 0 [none] [.int y0] 17 := by
  unfold F_D_isDigit_17 at h
  obtain ⟨b1, e_b1, h⟩ := Option.bind_eq_some_iff.mp h
  obtain rfl := Option.some.inj h
  exact Sm_retz K e_b1 hQ (eok_i (eo ek_D_isDigit (i := 9) rfl) rfl)
set_option maxHeartbeats 4000000 in
set_option maxRecDepth 100000 in
theorem s_D_isDigit_16 {G : Gx} {X : Cx} {res : Int32 × A_W} (K : Ok G X 1 c_D_isDigit 1 (some .boolean) rm_D_isDigit) (hQ : QQ G X (some (.int res.1)) res.2 0 0) (w : A_W) (h : F_D_isDigit_16 w = some res) : Sm G X w 0 0 [none] [] 16 := by
  unfold F_D_isDigit_16 at h
  refine Sm_run K ek_D_isDigit 8 1 rfl ?_
  exact Sm_le (leR_n leR_nil) (s_D_isDigit_17 K hQ _ _ h)
set_option maxHeartbeats 4000000 in
set_option maxRecDepth 100000 in
theorem s_D_isDigit_0 {G : Gx} {X : Cx} {res : Int32 × A_W} (K : Ok G X 1 c_D_isDigit 1 (some .boolean) rm_D_isDigit) (hQ : QQ G X (some (.int res.1)) res.2 0 0) (x0 : Int32) (w : A_W) (h : F_D_isDigit_0 x0 w = some res) : Sm G X w 0 0 [some (.int x0)] [] 0 := by
  unfold F_D_isDigit_0 at h
  refine Sm_run K ek_D_isDigit 0 2 rfl ?_
  refine Sm_ic_lt K (eo ek_D_isDigit (i := 2) rfl) (fun c1 => ?_) (fun c1 => ?_)
  · rw [if_pos c1] at h
    exact Sm_le (leR_n leR_nil) (s_D_isDigit_16 K hQ _ h)
  · rw [if_neg c1] at h
    refine Sm_run K ek_D_isDigit 3 2 rfl ?_
    refine Sm_ic_gt K (eo ek_D_isDigit (i := 5) rfl) (fun c2 => ?_) (fun c2 => ?_)
    · rw [if_pos c2] at h
      exact Sm_le (leR_n leR_nil) (s_D_isDigit_16 K hQ _ h)
    · rw [if_neg c2] at h
      refine Sm_run K ek_D_isDigit 6 2 rfl ?_
      exact Sm_le (leR_n leR_nil) (s_D_isDigit_17 K hQ _ _ h)
def F_D_isDigit (x0 : Int32) (w : A_W) : Option (Int32 × A_W) := F_D_isDigit_0 x0 w
theorem cn_D_isDigit {G : Gx} {x0 : Int32} {w : A_W} {res : Int32 × A_W} (h : F_D_isDigit x0 w = some res) : Cn G y_D_isDigit c_D_isDigit 1 (some .boolean) rm_D_isDigit [.int x0] w (some (.int res.1)) res.2 :=
  Cn_of (own := 1) cy_D_isDigit rfl rfl (Nat.le_of_ble_eq_true rfl) rfl (fun X K _ hQ => Sm_le (leR_s leR_nil) (s_D_isDigit_0 K hQ _ _ h))
