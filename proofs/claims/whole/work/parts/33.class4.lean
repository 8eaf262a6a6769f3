/-! EveningCloak$Room.vary(III)V -/
abbrev c_R_vary : ByteArray := prog_3_method_11_code
def y_R_vary : MethodName := ⟨"EveningCloak$Room", "vary", "(III)V"⟩
def rm_R_vary : Room := { frames := 1, cells := 0, slots := 0, locals := 21 }
theorem cy_R_vary : Cy y_R_vary c_R_vary 4 (none) 3 := ⟨lgm 463 (by decide +kernel) rfl, lgm 69 (by decide +kernel) rfl, by decide +kernel, by decide +kernel⟩
theorem im_R_vary : Cond.instanceMethod y_R_vary ∈ lg := lgm 461 (by decide +kernel) rfl
theorem se_R_vary : Cond.selects y_R_vary.cls y_R_vary y_R_vary ∈ lg := lgm 462 (by decide +kernel) rfl
def e_R_vary : List Ent := [
  (0, .iload_n 1, 1, 1, .null, 0, 0, 0),
  (1, .lookupswitch 59 #[(0, 27), (1, 37)], 27, 28, .null, 0, 0, 0),
  (28, .aload_n 0, 1, 29, .null, 0, 0, 0),
  (29, .getfield 22, 3, 32, .null, 2, 7, 115),
  (32, .iload_n 2, 1, 33, .null, 0, 0, 0),
  (33, .iload_n 3, 1, 34, .null, 0, 0, 0),
  (34, .iastore, 1, 35, .null, 0, 0, 0),
  (35, .goto 32, 3, 67, .null, 0, 0, 0),
  (38, .aload_n 0, 1, 39, .null, 0, 0, 0),
  (39, .getfield 15, 3, 42, .null, 2, 5, 110),
  (42, .iload_n 2, 1, 43, .null, 0, 0, 0),
  (43, .aload_n 0, 1, 44, .null, 0, 0, 0),
  (44, .getfield 15, 3, 47, .null, 2, 5, 110),
  (47, .iload_n 2, 1, 48, .null, 0, 0, 0),
  (48, .iaload, 1, 49, .null, 0, 0, 0),
  (49, .bipush 100, 2, 51, .int 100, 0, 0, 0),
  (51, .idiv, 1, 52, .null, 0, 0, 0),
  (52, .iload_n 3, 1, 53, .null, 0, 0, 0),
  (53, .invokestatic 94, 3, 56, .null, 0, 0, 0),
  (56, .iastore, 1, 57, .null, 0, 0, 0),
  (57, .goto 10, 3, 67, .null, 0, 0, 0),
  (60, .aload_n 0, 1, 61, .null, 0, 0, 0),
  (61, .getfield 19, 3, 64, .null, 2, 6, 113),
  (64, .iload_n 2, 1, 65, .null, 0, 0, 0),
  (65, .iload_n 3, 1, 66, .null, 0, 0, 0),
  (66, .iastore, 1, 67, .null, 0, 0, 0),
  (67, .return_, 1, 68, .null, 0, 0, 0)]
set_option maxRecDepth 100000 in
theorem ek_R_vary : e_R_vary.all (eok 2 c_R_vary) = true := by decide +kernel
def F_R_vary_67 (w : A_W) : Option (A_W) :=
  some w
def F_R_vary_0 (t : Nat) (x1 : Int32) (x2 : Int32) (x3 : Int32) (w : A_W) : Option (A_W) :=
  if x1 = 0 then
    (gr w t 2 7).bind fun a1 =>
    (wr w a1 x2 x3).bind fun w2 =>
    F_R_vary_67 w2
  else if x1 = 1 then
    (gr w t 2 5).bind fun a4 =>
    (gr w t 2 5).bind fun a5 =>
    (rd w a5 x2).bind fun v6 =>
    (F_K_standOf (v6 / 100) x3 w).bind fun p7 =>
    (wr p7.2 a4 x2 p7.1).bind fun w8 =>
    F_R_vary_67 w8
  else
    (gr w t 2 6).bind fun a10 =>
    (wr w a10 x2 x3).bind fun w11 =>
    F_R_vary_67 w11
set_option maxHeartbeats 4000000 in
set_option maxRecDepth 100000 in
theorem s_R_vary_67 {G : Gx} {X : Cx} {res : A_W} (K : Ok G X 2 c_R_vary 4 (none) rm_R_vary) (hQ : QQ G X none res 0 0) (w : A_W) (h : F_R_vary_67 w = some res) : Sm G X w 0 0 [none, none, none, none] [] 67 := by
  unfold F_R_vary_67 at h
  obtain rfl := Option.some.inj h
  exact Sm_retv K hQ (eok_i (eo ek_R_vary (i := 26) rfl) rfl)
set_option maxHeartbeats 4000000 in
set_option maxRecDepth 100000 in
theorem s_R_vary_0 {G : Gx} {X : Cx} {res : A_W} (K : Ok G X 2 c_R_vary 4 (none) rm_R_vary) (hQ : QQ G X none res 0 0) (t : Nat) (x1 : Int32) (x2 : Int32) (x3 : Int32) (w : A_W) (h : F_R_vary_0 t x1 x2 x3 w = some res) : Sm G X w 0 0 [some (.ref t), some (.int x1), some (.int x2), some (.int x3)] [] 0 := by
  unfold F_R_vary_0 at h
  refine Sm_run K ek_R_vary 0 1 rfl ?_
  by_cases c3 : x1 = 0
  · rw [if_pos c3] at h
    refine Sm_lsw K (eok_d (eo ek_R_vary (i := 1) rfl)) (by decide) 28 (by rw [c3]; decide) ?_
    refine Sm_run K ek_R_vary 2 1 rfl ?_
    obtain ⟨a1, e_a1, h⟩ := Option.bind_eq_some_iff.mp h
    refine Sm_gr K (eo ek_R_vary (i := 3) rfl) e_a1 ?_
    refine Sm_run K ek_R_vary 4 2 rfl ?_
    obtain ⟨w2, e_w2, h⟩ := Option.bind_eq_some_iff.mp h
    refine Sm_wr K (eok_i (eo ek_R_vary (i := 6) rfl) rfl) e_w2 ?_
    refine Sm_run K ek_R_vary 7 1 rfl ?_
    exact Sm_le (leR_n (leR_n (leR_n (leR_n leR_nil)))) (s_R_vary_67 K hQ _ h)
  rw [if_neg c3] at h
  by_cases c9 : x1 = 1
  · rw [if_pos c9] at h
    refine Sm_lsw K (eok_d (eo ek_R_vary (i := 1) rfl)) (by decide) 38 (by rw [c9]; decide) ?_
    refine Sm_run K ek_R_vary 8 1 rfl ?_
    obtain ⟨a4, e_a4, h⟩ := Option.bind_eq_some_iff.mp h
    refine Sm_gr K (eo ek_R_vary (i := 9) rfl) e_a4 ?_
    refine Sm_run K ek_R_vary 10 2 rfl ?_
    obtain ⟨a5, e_a5, h⟩ := Option.bind_eq_some_iff.mp h
    refine Sm_gr K (eo ek_R_vary (i := 12) rfl) e_a5 ?_
    refine Sm_run K ek_R_vary 13 1 rfl ?_
    obtain ⟨v6, e_v6, h⟩ := Option.bind_eq_some_iff.mp h
    refine Sm_rd K (eok_i (eo ek_R_vary (i := 14) rfl) rfl) e_v6 ?_
    refine Sm_run K ek_R_vary 15 1 rfl ?_
    refine Sm_idiv K (eok_i (eo ek_R_vary (i := 16) rfl) rfl) (by decide) ?_
    refine Sm_run K ek_R_vary 17 1 rfl ?_
    obtain ⟨p7, e_p7, h⟩ := Option.bind_eq_some_iff.mp h
    refine Sm_callSN K (host := "EveningCloak") (eok_i (eo ek_R_vary (i := 18) rfl) rfl) cy_K_standOf st_K_standOf (by decide +kernel) ⟨Nat.le_of_ble_eq_true rfl, Nat.le_of_ble_eq_true rfl⟩ (as := [.int (v6 / 100), .int x3]) (st := [.int x2, .ref a4]) rfl rfl rfl (Nat.le_of_ble_eq_true rfl) ⟨Nat.le_of_ble_eq_true rfl, Nat.le_of_ble_eq_true rfl⟩ (cn_K_standOf e_p7) ?_
    refine Sm_eq (st1 := .int p7.1 :: [.int x2, .ref a4]) (nc1 := 0) (ns1 := 0) rfl rfl rfl ?_
    obtain ⟨w8, e_w8, h⟩ := Option.bind_eq_some_iff.mp h
    refine Sm_wr K (eok_i (eo ek_R_vary (i := 19) rfl) rfl) e_w8 ?_
    refine Sm_run K ek_R_vary 20 1 rfl ?_
    exact Sm_le (leR_n (leR_n (leR_n (leR_n leR_nil)))) (s_R_vary_67 K hQ _ h)
  rw [if_neg c9] at h
  refine Sm_lsw K (eok_d (eo ek_R_vary (i := 1) rfl)) (by decide) 60 (lsw_out (ps2 := [(0, 27), (1, 37)]) rfl (by decide) (fun q hq => by simp only [List.mem_cons, List.not_mem_nil, or_false] at hq; rcases hq with rfl | rfl <;> intro hz <;> first | exact absurd (Int32.toInt_inj.mp (hz.trans (by decide : _ = (0 : Int32).toInt))) c3 | exact absurd (Int32.toInt_inj.mp (hz.trans (by decide : _ = (1 : Int32).toInt))) c9)) ?_
  refine Sm_run K ek_R_vary 21 1 rfl ?_
  obtain ⟨a10, e_a10, h⟩ := Option.bind_eq_some_iff.mp h
  refine Sm_gr K (eo ek_R_vary (i := 22) rfl) e_a10 ?_
  refine Sm_run K ek_R_vary 23 2 rfl ?_
  obtain ⟨w11, e_w11, h⟩ := Option.bind_eq_some_iff.mp h
  refine Sm_wr K (eok_i (eo ek_R_vary (i := 25) rfl) rfl) e_w11 ?_
  exact Sm_le (leR_n (leR_n (leR_n (leR_n leR_nil)))) (s_R_vary_67 K hQ _ h)
def F_R_vary (t : Nat) (x1 : Int32) (x2 : Int32) (x3 : Int32) (w : A_W) : Option (A_W) := F_R_vary_0 t x1 x2 x3 w
theorem cn_R_vary {G : Gx} {t : Nat} {x1 : Int32} {x2 : Int32} {x3 : Int32} {w : A_W} {res : A_W} (h : F_R_vary t x1 x2 x3 w = some res) : Cn G y_R_vary c_R_vary 4 (none) rm_R_vary [.ref t, .int x1, .int x2, .int x3] w none res :=
  Cn_of (own := 2) cy_R_vary rfl rfl (Nat.le_of_ble_eq_true rfl) rfl (fun X K _ hQ => Sm_le (leR_s (leR_s (leR_s (leR_s leR_nil)))) (s_R_vary_0 K hQ _ _ _ _ _ h))
/-! EveningCloak.bestFor(III)I -/
abbrev c_K_bestFor : ByteArray := prog_1_method_57_code
def y_K_bestFor : MethodName := ⟨"EveningCloak", "bestFor", "(III)I"⟩
def rm_K_bestFor : Room := { frames := 5, cells := 0, slots := 0, locals := 113 }
theorem cy_K_bestFor : Cy y_K_bestFor c_K_bestFor 9 (some .int) 3 := ⟨lgm 459 (by decide +kernel) rfl, lgm 68 (by decide +kernel) rfl, by decide +kernel, by decide +kernel⟩
theorem im_K_bestFor : Cond.instanceMethod y_K_bestFor ∈ lg := lgm 458 (by decide +kernel) rfl
theorem se_K_bestFor : Cond.selects y_K_bestFor.cls y_K_bestFor y_K_bestFor ∈ lg := lgm 3 (by decide +kernel) rfl
def e_K_bestFor : List Ent := [
  (0, .iload_n 1, 1, 1, .null, 0, 0, 0),
  (1, .iconst 2, 1, 2, .int 2, 0, 0, 0),
  (2, .if_icmp .ne 8, 3, 10, .null, 0, 0, 0),
  (5, .bipush 7, 2, 7, .int 7, 0, 0, 0),
  (7, .goto 5, 3, 12, .null, 0, 0, 0),
  (10, .bipush 16, 2, 12, .int 16, 0, 0, 0),
  (12, .istore 4, 2, 14, .null, 0, 0, 0),
  (14, .iconst 0, 1, 15, .int 0, 0, 0, 0),
  (15, .istore 5, 2, 17, .null, 0, 0, 0),
  (17, .iconst (-1), 1, 18, .int (-1), 0, 0, 0),
  (18, .istore 6, 2, 20, .null, 0, 0, 0),
  (20, .iconst 0, 1, 21, .int 0, 0, 0, 0),
  (21, .istore 7, 2, 23, .null, 0, 0, 0),
  (23, .iload 7, 2, 25, .null, 0, 0, 0),
  (25, .iload 4, 2, 27, .null, 0, 0, 0),
  (27, .if_icmp .ge 63, 3, 90, .null, 0, 0, 0),
  (30, .aload_n 0, 1, 31, .null, 0, 0, 0),
  (31, .getfield 16, 3, 34, .null, 0, 1, 218),
  (34, .aload_n 0, 1, 35, .null, 0, 0, 0),
  (35, .getfield 12, 3, 38, .null, 0, 0, 217),
  (38, .invokevirtual 187, 3, 41, .null, 0, 0, 0),
  (41, .aload_n 0, 1, 42, .null, 0, 0, 0),
  (42, .getfield 16, 3, 45, .null, 0, 1, 218),
  (45, .iload_n 1, 1, 46, .null, 0, 0, 0),
  (46, .iload_n 2, 1, 47, .null, 0, 0, 0),
  (47, .iload 7, 2, 49, .null, 0, 0, 0),
  (49, .invokevirtual 264, 3, 52, .null, 0, 0, 0),
  (52, .aload_n 0, 1, 53, .null, 0, 0, 0),
  (53, .getfield 16, 3, 56, .null, 0, 1, 218),
  (56, .iload_n 3, 1, 57, .null, 0, 0, 0),
  (57, .invokevirtual 113, 3, 60, .null, 0, 0, 0),
  (60, .aload_n 0, 1, 61, .null, 0, 0, 0),
  (61, .getfield 16, 3, 64, .null, 0, 1, 218),
  (64, .invokevirtual 120, 3, 67, .null, 0, 0, 0),
  (67, .istore 8, 2, 69, .null, 0, 0, 0),
  (69, .iload 8, 2, 71, .null, 0, 0, 0),
  (71, .iload 6, 2, 73, .null, 0, 0, 0),
  (73, .if_icmp .le 11, 3, 84, .null, 0, 0, 0),
  (76, .iload 8, 2, 78, .null, 0, 0, 0),
  (78, .istore 6, 2, 80, .null, 0, 0, 0),
  (80, .iload 7, 2, 82, .null, 0, 0, 0),
  (82, .istore 5, 2, 84, .null, 0, 0, 0),
  (84, .iinc 7 1, 3, 87, .int 1, 0, 0, 0),
  (87, .goto (-64), 3, 23, .null, 0, 0, 0),
  (90, .iload 5, 2, 92, .null, 0, 0, 0),
  (92, .ireturn, 1, 93, .null, 0, 0, 0)]
set_option maxRecDepth 100000 in
theorem ek_K_bestFor : e_K_bestFor.all (eok 0 c_K_bestFor) = true := by decide +kernel
def F_K_bestFor_84 (k23 : Nat → Int32 → Int32 → Int32 → Int32 → Int32 → Int32 → Int32 → A_W → Option (Int32 × A_W)) (t : Nat) (x1 : Int32) (x2 : Int32) (x3 : Int32) (x4 : Int32) (x5 : Int32) (x6 : Int32) (x7 : Int32) (w : A_W) : Option (Int32 × A_W) :=
  k23 t x1 x2 x3 x4 x5 x6 (x7 + 1) w
def F_K_bestFor_23 : Nat → Nat → Int32 → Int32 → Int32 → Int32 → Int32 → Int32 → Int32 → A_W → Option (Int32 × A_W)
  | 0, _, _, _, _, _, _, _, _, _ => none
  | n + 1, t, x1, x2, x3, x4, x5, x6, x7, w =>
    if x4 ≤ x7 then
      some (x5, w)
    else
      (gr w t 0 1).bind fun a2 =>
      (gr w t 0 0).bind fun a3 =>
      (ob w a2 2).bind fun o5 =>
      (F_R_become a2 a3 w).bind fun p4 =>
      (gr p4 t 0 1).bind fun a6 =>
      (ob p4 a6 2).bind fun o8 =>
      (F_R_vary a6 x1 x2 x7 p4).bind fun p7 =>
      (gr p7 t 0 1).bind fun a9 =>
      (ob p7 a9 2).bind fun o11 =>
      (F_R_passDays a9 x3 p7).bind fun p10 =>
      (gr p10 t 0 1).bind fun a12 =>
      (ob p10 a12 2).bind fun o14 =>
      (F_R_metTogether a12 p10).bind fun p13 =>
      if p13.1 ≤ x6 then
        F_K_bestFor_84 (F_K_bestFor_23 n) t x1 x2 x3 x4 x5 x6 x7 p13.2
      else
        F_K_bestFor_84 (F_K_bestFor_23 n) t x1 x2 x3 x4 x7 p13.1 x7 p13.2
def F_K_bestFor_12 (t : Nat) (x1 : Int32) (x2 : Int32) (x3 : Int32) (y0 : Int32) (w : A_W) : Option (Int32 × A_W) :=
  F_K_bestFor_23 FU t x1 x2 x3 y0 0 (-1) 0 w
def F_K_bestFor_0 (t : Nat) (x1 : Int32) (x2 : Int32) (x3 : Int32) (w : A_W) : Option (Int32 × A_W) :=
  if x1 = 2 then
    F_K_bestFor_12 t x1 x2 x3 7 w
  else
    F_K_bestFor_12 t x1 x2 x3 16 w
set_option maxHeartbeats 4000000 in
set_option maxRecDepth 100000 in
theorem s_K_bestFor_84 {G : Gx} {X : Cx} {res : Int32 × A_W} (K : Ok G X 0 c_K_bestFor 9 (some .int) rm_K_bestFor) (hQ : QQ G X (some (.int res.1)) res.2 0 0) {k23 : Nat → Int32 → Int32 → Int32 → Int32 → Int32 → Int32 → Int32 → A_W → Option (Int32 × A_W)} (hk23 : ∀ (t : Nat) (x1 : Int32) (x2 : Int32) (x3 : Int32) (x4 : Int32) (x5 : Int32) (x6 : Int32) (x7 : Int32) (w : A_W), k23 t x1 x2 x3 x4 x5 x6 x7 w = some res → Sm G X w 0 0 [some (.ref t), some (.int x1), some (.int x2), some (.int x3), some (.int x4), some (.int x5), some (.int x6), some (.int x7), none] [] 23) (t : Nat) (x1 : Int32) (x2 : Int32) (x3 : Int32) (x4 : Int32) (x5 : Int32) (x6 : Int32) (x7 : Int32) (w : A_W) (h : F_K_bestFor_84 k23 t x1 x2 x3 x4 x5 x6 x7 w = some res) : Sm G X w 0 0 [some (.ref t), some (.int x1), some (.int x2), some (.int x3), some (.int x4), some (.int x5), some (.int x6), some (.int x7), none] [] 84 := by
  unfold F_K_bestFor_84 at h
  refine Sm_run K ek_K_bestFor 42 2 rfl ?_
  exact Sm_le (leR_s (leR_s (leR_s (leR_s (leR_s (leR_s (leR_s (leR_s (leR_n leR_nil))))))))) (hk23 _ _ _ _ _ _ _ _ _ h)
set_option maxHeartbeats 4000000 in
set_option maxRecDepth 100000 in
theorem s_K_bestFor_23 {G : Gx} {X : Cx} {res : Int32 × A_W} (K : Ok G X 0 c_K_bestFor 9 (some .int) rm_K_bestFor) (hQ : QQ G X (some (.int res.1)) res.2 0 0) : ∀ (n : Nat) (t : Nat) (x1 : Int32) (x2 : Int32) (x3 : Int32) (x4 : Int32) (x5 : Int32) (x6 : Int32) (x7 : Int32) (w : A_W), F_K_bestFor_23 n t x1 x2 x3 x4 x5 x6 x7 w = some res → Sm G X w 0 0 [some (.ref t), some (.int x1), some (.int x2), some (.int x3), some (.int x4), some (.int x5), some (.int x6), some (.int x7), none] [] 23 := by
  intro n
  induction n with
  | zero => intro t x1 x2 x3 x4 x5 x6 x7 w h; cases h
  | succ n ih =>
    intro t x1 x2 x3 x4 x5 x6 x7 w h
    rw [F_K_bestFor_23] at h
    refine Sm_run K ek_K_bestFor 13 2 rfl ?_
    refine Sm_ic_ge K (eo ek_K_bestFor (i := 15) rfl) (fun c1 => ?_) (fun c1 => ?_)
    · rw [if_pos c1] at h
      refine Sm_run K ek_K_bestFor 44 1 rfl ?_
      obtain rfl := Option.some.inj h
      exact Sm_reti K hQ (eok_i (eo ek_K_bestFor (i := 45) rfl) rfl)
    · rw [if_neg c1] at h
      refine Sm_run K ek_K_bestFor 16 1 rfl ?_
      obtain ⟨a2, e_a2, h⟩ := Option.bind_eq_some_iff.mp h
      refine Sm_gr K (eo ek_K_bestFor (i := 17) rfl) e_a2 ?_
      refine Sm_run K ek_K_bestFor 18 1 rfl ?_
      obtain ⟨a3, e_a3, h⟩ := Option.bind_eq_some_iff.mp h
      refine Sm_gr K (eo ek_K_bestFor (i := 19) rfl) e_a3 ?_
      obtain ⟨o5, e_o5, h⟩ := Option.bind_eq_some_iff.mp h
      obtain ⟨p4, e_p4, h⟩ := Option.bind_eq_some_iff.mp h
      refine Sm_callV K (eok_i (eo ek_K_bestFor (i := 20) rfl) rfl) cy_R_become im_R_become se_R_become (lgm 417 (by decide +kernel) rfl) ⟨Nat.le_of_ble_eq_true rfl, Nat.le_of_ble_eq_true rfl⟩ (as := [.ref a3]) (b := a2) (st := []) (ob_e e_o5) (by decide) rfl rfl rfl rfl (Nat.le_of_ble_eq_true rfl) ⟨Nat.le_of_ble_eq_true rfl, Nat.le_of_ble_eq_true rfl⟩ (cn_R_become e_p4) ?_
      refine Sm_eq (st1 := []) (nc1 := 0) (ns1 := 0) rfl rfl rfl ?_
      refine Sm_run K ek_K_bestFor 21 1 rfl ?_
      obtain ⟨a6, e_a6, h⟩ := Option.bind_eq_some_iff.mp h
      refine Sm_gr K (eo ek_K_bestFor (i := 22) rfl) e_a6 ?_
      refine Sm_run K ek_K_bestFor 23 3 rfl ?_
      obtain ⟨o8, e_o8, h⟩ := Option.bind_eq_some_iff.mp h
      obtain ⟨p7, e_p7, h⟩ := Option.bind_eq_some_iff.mp h
      refine Sm_callV K (eok_i (eo ek_K_bestFor (i := 26) rfl) rfl) cy_R_vary im_R_vary se_R_vary (lgm 460 (by decide +kernel) rfl) ⟨Nat.le_of_ble_eq_true rfl, Nat.le_of_ble_eq_true rfl⟩ (as := [.int x1, .int x2, .int x7]) (b := a6) (st := []) (ob_e e_o8) (by decide) rfl rfl rfl rfl (Nat.le_of_ble_eq_true rfl) ⟨Nat.le_of_ble_eq_true rfl, Nat.le_of_ble_eq_true rfl⟩ (cn_R_vary e_p7) ?_
      refine Sm_eq (st1 := []) (nc1 := 0) (ns1 := 0) rfl rfl rfl ?_
      refine Sm_run K ek_K_bestFor 27 1 rfl ?_
      obtain ⟨a9, e_a9, h⟩ := Option.bind_eq_some_iff.mp h
      refine Sm_gr K (eo ek_K_bestFor (i := 28) rfl) e_a9 ?_
      refine Sm_run K ek_K_bestFor 29 1 rfl ?_
      obtain ⟨o11, e_o11, h⟩ := Option.bind_eq_some_iff.mp h
      obtain ⟨p10, e_p10, h⟩ := Option.bind_eq_some_iff.mp h
      refine Sm_callV K (eok_i (eo ek_K_bestFor (i := 30) rfl) rfl) cy_R_passDays im_R_passDays se_R_passDays (lgm 367 (by decide +kernel) rfl) ⟨Nat.le_of_ble_eq_true rfl, Nat.le_of_ble_eq_true rfl⟩ (as := [.int x3]) (b := a9) (st := []) (ob_e e_o11) (by decide) rfl rfl rfl rfl (Nat.le_of_ble_eq_true rfl) ⟨Nat.le_of_ble_eq_true rfl, Nat.le_of_ble_eq_true rfl⟩ (cn_R_passDays e_p10) ?_
      refine Sm_eq (st1 := []) (nc1 := 0) (ns1 := 0) rfl rfl rfl ?_
      refine Sm_run K ek_K_bestFor 31 1 rfl ?_
      obtain ⟨a12, e_a12, h⟩ := Option.bind_eq_some_iff.mp h
      refine Sm_gr K (eo ek_K_bestFor (i := 32) rfl) e_a12 ?_
      obtain ⟨o14, e_o14, h⟩ := Option.bind_eq_some_iff.mp h
      obtain ⟨p13, e_p13, h⟩ := Option.bind_eq_some_iff.mp h
      refine Sm_callV K (eok_i (eo ek_K_bestFor (i := 33) rfl) rfl) cy_R_metTogether im_R_metTogether se_R_metTogether (lgm 388 (by decide +kernel) rfl) ⟨Nat.le_of_ble_eq_true rfl, Nat.le_of_ble_eq_true rfl⟩ (as := []) (b := a12) (st := []) (ob_e e_o14) (by decide) rfl rfl rfl rfl (Nat.le_of_ble_eq_true rfl) ⟨Nat.le_of_ble_eq_true rfl, Nat.le_of_ble_eq_true rfl⟩ (cn_R_metTogether e_p13) ?_
      refine Sm_eq (st1 := .int p13.1 :: []) (nc1 := 0) (ns1 := 0) rfl rfl rfl ?_
      refine Sm_run K ek_K_bestFor 34 3 rfl ?_
      refine Sm_ic_le K (eo ek_K_bestFor (i := 37) rfl) (fun c15 => ?_) (fun c15 => ?_)
      · rw [if_pos c15] at h
        exact Sm_le (leR_s (leR_s (leR_s (leR_s (leR_s (leR_s (leR_s (leR_s (leR_n leR_nil))))))))) (s_K_bestFor_84 K hQ ih _ _ _ _ _ _ _ _ _ h)
      · rw [if_neg c15] at h
        refine Sm_run K ek_K_bestFor 38 4 rfl ?_
        exact Sm_le (leR_s (leR_s (leR_s (leR_s (leR_s (leR_s (leR_s (leR_s (leR_n leR_nil))))))))) (s_K_bestFor_84 K hQ ih _ _ _ _ _ _ _ _ _ h)
set_option maxHeartbeats 4000000 in
set_option maxRecDepth 100000 in
theorem s_K_bestFor_12 {G : Gx} {X : Cx} {res : Int32 × A_W} (K : Ok G X 0 c_K_bestFor 9 (some .int) rm_K_bestFor) (hQ : QQ G X (some (.int res.1)) res.2 0 0) (t : Nat) (x1 : Int32) (x2 : Int32) (x3 : Int32) (y0 : Int32) (w : A_W) (h : F_K_bestFor_12 t x1 x2 x3 y0 w = some res) : Sm G X w 0 0 [some (.ref t), some (.int x1), some (.int x2), some (.int x3), none, none, none, none, none] [.int y0] 12 := by
  unfold F_K_bestFor_12 at h
  refine Sm_run K ek_K_bestFor 6 7 rfl ?_
  exact Sm_le (leR_s (leR_s (leR_s (leR_s (leR_s (leR_s (leR_s (leR_s (leR_n leR_nil))))))))) (s_K_bestFor_23 K hQ FU _ _ _ _ _ _ _ _ _ h)
set_option maxHeartbeats 4000000 in
set_option maxRecDepth 100000 in
theorem s_K_bestFor_0 {G : Gx} {X : Cx} {res : Int32 × A_W} (K : Ok G X 0 c_K_bestFor 9 (some .int) rm_K_bestFor) (hQ : QQ G X (some (.int res.1)) res.2 0 0) (t : Nat) (x1 : Int32) (x2 : Int32) (x3 : Int32) (w : A_W) (h : F_K_bestFor_0 t x1 x2 x3 w = some res) : Sm G X w 0 0 [some (.ref t), some (.int x1), some (.int x2), some (.int x3), none, none, none, none, none] [] 0 := by
  unfold F_K_bestFor_0 at h
  refine Sm_run K ek_K_bestFor 0 2 rfl ?_
  refine Sm_ic_ne K (eo ek_K_bestFor (i := 2) rfl) (fun c1 => ?_) (fun c1 => ?_)
  · rw [if_neg c1] at h
    refine Sm_run K ek_K_bestFor 5 1 rfl ?_
    exact Sm_le (leR_s (leR_s (leR_s (leR_s (leR_n (leR_n (leR_n (leR_n (leR_n leR_nil))))))))) (s_K_bestFor_12 K hQ _ _ _ _ _ _ h)
  · rw [if_pos c1] at h
    refine Sm_run K ek_K_bestFor 3 2 rfl ?_
    exact Sm_le (leR_s (leR_s (leR_s (leR_s (leR_n (leR_n (leR_n (leR_n (leR_n leR_nil))))))))) (s_K_bestFor_12 K hQ _ _ _ _ _ _ h)
def F_K_bestFor (t : Nat) (x1 : Int32) (x2 : Int32) (x3 : Int32) (w : A_W) : Option (Int32 × A_W) := F_K_bestFor_0 t x1 x2 x3 w
theorem cn_K_bestFor {G : Gx} {t : Nat} {x1 : Int32} {x2 : Int32} {x3 : Int32} {w : A_W} {res : Int32 × A_W} (h : F_K_bestFor t x1 x2 x3 w = some res) : Cn G y_K_bestFor c_K_bestFor 9 (some .int) rm_K_bestFor [.ref t, .int x1, .int x2, .int x3] w (some (.int res.1)) res.2 :=
  Cn_of (own := 0) cy_K_bestFor rfl rfl (Nat.le_of_ble_eq_true rfl) rfl (fun X K _ hQ => Sm_le (leR_s (leR_s (leR_s (leR_s (leR_n (leR_n (leR_n (leR_n (leR_n leR_nil))))))))) (s_K_bestFor_0 K hQ _ _ _ _ _ h))
/-! EveningCloak.hangFor(II)I -/
abbrev c_K_hangFor : ByteArray := prog_1_method_20_code
def y_K_hangFor : MethodName := ⟨"EveningCloak", "hangFor", "(II)I"⟩
def rm_K_hangFor : Room := { frames := 6, cells := 0, slots := 0, locals := 141 }
theorem cy_K_hangFor : Cy y_K_hangFor c_K_hangFor 3 (some .int) 2 := ⟨lgm 455 (by decide +kernel) rfl, lgm 68 (by decide +kernel) rfl, by decide +kernel, by decide +kernel⟩
theorem im_K_hangFor : Cond.instanceMethod y_K_hangFor ∈ lg := lgm 453 (by decide +kernel) rfl
theorem se_K_hangFor : Cond.selects y_K_hangFor.cls y_K_hangFor y_K_hangFor ∈ lg := lgm 454 (by decide +kernel) rfl
def e_K_hangFor : List Ent := [
  (0, .aload_n 0, 1, 1, .null, 0, 0, 0),
  (1, .getfield 12, 3, 4, .null, 0, 0, 217),
  (4, .iload_n 1, 1, 5, .null, 0, 0, 0),
  (5, .invokevirtual 75, 3, 8, .null, 0, 0, 0),
  (8, .ifCond .eq 13, 3, 21, .null, 0, 0, 0),
  (11, .iload_n 2, 1, 12, .null, 0, 0, 0),
  (12, .iconst 0, 1, 13, .int 0, 0, 0, 0),
  (13, .bipush 40, 2, 15, .int 40, 0, 0, 0),
  (15, .invokestatic 40, 3, 18, .null, 0, 0, 0),
  (18, .ifCond .ne 9, 3, 27, .null, 0, 0, 0),
  (21, .aload_n 0, 1, 22, .null, 0, 0, 0),
  (22, .iconst 0, 1, 23, .int 0, 0, 0, 0),
  (23, .invokevirtual 48, 3, 26, .null, 0, 0, 0),
  (26, .ireturn, 1, 27, .null, 0, 0, 0),
  (27, .aload_n 0, 1, 28, .null, 0, 0, 0),
  (28, .iconst 0, 1, 29, .int 0, 0, 0, 0),
  (29, .iload_n 1, 1, 30, .null, 0, 0, 0),
  (30, .iload_n 2, 1, 31, .null, 0, 0, 0),
  (31, .invokevirtual 146, 3, 34, .null, 0, 0, 0),
  (34, .ireturn, 1, 35, .null, 0, 0, 0)]
set_option maxRecDepth 100000 in
theorem ek_K_hangFor : e_K_hangFor.all (eok 0 c_K_hangFor) = true := by decide +kernel
def F_K_hangFor_21 (t : Nat) (w : A_W) : Option (Int32 × A_W) :=
  (ob w t 0).bind fun o2 =>
  (F_K_finding t 0 w).bind fun p1 =>
  some (p1.1, p1.2)
def F_K_hangFor_0 (t : Nat) (x1 : Int32) (x2 : Int32) (w : A_W) : Option (Int32 × A_W) :=
  (gr w t 0 0).bind fun a1 =>
  (ob w a1 2).bind fun o3 =>
  (F_R_hasDeposit a1 x1 w).bind fun p2 =>
  if p2.1 = 0 then
    F_K_hangFor_21 t p2.2
  else
    (F_K_within x2 0 40 p2.2).bind fun p5 =>
    if p5.1 = 0 then
      F_K_hangFor_21 t p5.2
    else
      (ob p5.2 t 0).bind fun o8 =>
      (F_K_bestFor t 0 x1 x2 p5.2).bind fun p7 =>
      some (p7.1, p7.2)
set_option maxHeartbeats 4000000 in
set_option maxRecDepth 100000 in
theorem s_K_hangFor_21 {G : Gx} {X : Cx} {res : Int32 × A_W} (K : Ok G X 0 c_K_hangFor 3 (some .int) rm_K_hangFor) (hQ : QQ G X (some (.int res.1)) res.2 0 0) (t : Nat) (w : A_W) (h : F_K_hangFor_21 t w = some res) : Sm G X w 0 0 [some (.ref t), none, none] [] 21 := by
  unfold F_K_hangFor_21 at h
  refine Sm_run K ek_K_hangFor 10 2 rfl ?_
  obtain ⟨o2, e_o2, h⟩ := Option.bind_eq_some_iff.mp h
  obtain ⟨p1, e_p1, h⟩ := Option.bind_eq_some_iff.mp h
  refine Sm_callV K (eok_i (eo ek_K_hangFor (i := 12) rfl) rfl) cy_K_finding im_K_finding se_K_finding (lgm 249 (by decide +kernel) rfl) ⟨Nat.le_of_ble_eq_true rfl, Nat.le_of_ble_eq_true rfl⟩ (as := [.int 0]) (b := t) (st := []) (ob_e e_o2) (by decide) rfl rfl rfl rfl (Nat.le_of_ble_eq_true rfl) ⟨Nat.le_of_ble_eq_true rfl, Nat.le_of_ble_eq_true rfl⟩ (cn_K_finding e_p1) ?_
  refine Sm_eq (st1 := .int p1.1 :: []) (nc1 := 0) (ns1 := 0) rfl rfl rfl ?_
  obtain rfl := Option.some.inj h
  exact Sm_reti K hQ (eok_i (eo ek_K_hangFor (i := 13) rfl) rfl)
set_option maxHeartbeats 4000000 in
set_option maxRecDepth 100000 in
theorem s_K_hangFor_0 {G : Gx} {X : Cx} {res : Int32 × A_W} (K : Ok G X 0 c_K_hangFor 3 (some .int) rm_K_hangFor) (hQ : QQ G X (some (.int res.1)) res.2 0 0) (t : Nat) (x1 : Int32) (x2 : Int32) (w : A_W) (h : F_K_hangFor_0 t x1 x2 w = some res) : Sm G X w 0 0 [some (.ref t), some (.int x1), some (.int x2)] [] 0 := by
  unfold F_K_hangFor_0 at h
  refine Sm_run K ek_K_hangFor 0 1 rfl ?_
  obtain ⟨a1, e_a1, h⟩ := Option.bind_eq_some_iff.mp h
  refine Sm_gr K (eo ek_K_hangFor (i := 1) rfl) e_a1 ?_
  refine Sm_run K ek_K_hangFor 2 1 rfl ?_
  obtain ⟨o3, e_o3, h⟩ := Option.bind_eq_some_iff.mp h
  obtain ⟨p2, e_p2, h⟩ := Option.bind_eq_some_iff.mp h
  refine Sm_callV K (eok_i (eo ek_K_hangFor (i := 3) rfl) rfl) cy_R_hasDeposit im_R_hasDeposit se_R_hasDeposit (lgm 284 (by decide +kernel) rfl) ⟨Nat.le_of_ble_eq_true rfl, Nat.le_of_ble_eq_true rfl⟩ (as := [.int x1]) (b := a1) (st := []) (ob_e e_o3) (by decide) rfl rfl rfl rfl (Nat.le_of_ble_eq_true rfl) ⟨Nat.le_of_ble_eq_true rfl, Nat.le_of_ble_eq_true rfl⟩ (cn_R_hasDeposit e_p2) ?_
  refine Sm_eq (st1 := .int p2.1 :: []) (nc1 := 0) (ns1 := 0) rfl rfl rfl ?_
  refine Sm_if_eq K (eo ek_K_hangFor (i := 4) rfl) (fun c4 => ?_) (fun c4 => ?_)
  · rw [if_pos c4] at h
    exact Sm_le (leR_s (leR_n (leR_n leR_nil))) (s_K_hangFor_21 K hQ _ _ h)
  · rw [if_neg c4] at h
    refine Sm_run K ek_K_hangFor 5 3 rfl ?_
    obtain ⟨p5, e_p5, h⟩ := Option.bind_eq_some_iff.mp h
    refine Sm_callS K (eok_i (eo ek_K_hangFor (i := 8) rfl) rfl) cy_K_within st_K_within (lgm 243 (by decide +kernel) rfl) ⟨Nat.le_of_ble_eq_true rfl, Nat.le_of_ble_eq_true rfl⟩ (as := [.int x2, .int 0, .int 40]) (st := []) rfl rfl rfl (Nat.le_of_ble_eq_true rfl) ⟨Nat.le_of_ble_eq_true rfl, Nat.le_of_ble_eq_true rfl⟩ (cn_K_within e_p5) ?_
    refine Sm_eq (st1 := .int p5.1 :: []) (nc1 := 0) (ns1 := 0) rfl rfl rfl ?_
    refine Sm_if_ne K (eo ek_K_hangFor (i := 9) rfl) (fun c6 => ?_) (fun c6 => ?_)
    · rw [if_neg c6] at h
      refine Sm_run K ek_K_hangFor 14 4 rfl ?_
      obtain ⟨o8, e_o8, h⟩ := Option.bind_eq_some_iff.mp h
      obtain ⟨p7, e_p7, h⟩ := Option.bind_eq_some_iff.mp h
      refine Sm_callV K (eok_i (eo ek_K_hangFor (i := 18) rfl) rfl) cy_K_bestFor im_K_bestFor se_K_bestFor (lgm 456 (by decide +kernel) rfl) ⟨Nat.le_of_ble_eq_true rfl, Nat.le_of_ble_eq_true rfl⟩ (as := [.int 0, .int x1, .int x2]) (b := t) (st := []) (ob_e e_o8) (by decide) rfl rfl rfl rfl (Nat.le_of_ble_eq_true rfl) ⟨Nat.le_of_ble_eq_true rfl, Nat.le_of_ble_eq_true rfl⟩ (cn_K_bestFor e_p7) ?_
      refine Sm_eq (st1 := .int p7.1 :: []) (nc1 := 0) (ns1 := 0) rfl rfl rfl ?_
      obtain rfl := Option.some.inj h
      exact Sm_reti K hQ (eok_i (eo ek_K_hangFor (i := 19) rfl) rfl)
    · rw [if_pos c6] at h
      exact Sm_le (leR_s (leR_n (leR_n leR_nil))) (s_K_hangFor_21 K hQ _ _ h)
def F_K_hangFor (t : Nat) (x1 : Int32) (x2 : Int32) (w : A_W) : Option (Int32 × A_W) := F_K_hangFor_0 t x1 x2 w
theorem cn_K_hangFor {G : Gx} {t : Nat} {x1 : Int32} {x2 : Int32} {w : A_W} {res : Int32 × A_W} (h : F_K_hangFor t x1 x2 w = some res) : Cn G y_K_hangFor c_K_hangFor 3 (some .int) rm_K_hangFor [.ref t, .int x1, .int x2] w (some (.int res.1)) res.2 :=
  Cn_of (own := 0) cy_K_hangFor rfl rfl (Nat.le_of_ble_eq_true rfl) rfl (fun X K _ hQ => Sm_le (leR_s (leR_s (leR_s leR_nil))) (s_K_hangFor_0 K hQ _ _ _ _ h))
/-! EveningCloak.standFor(II)I -/
abbrev c_K_standFor : ByteArray := prog_1_method_21_code
def y_K_standFor : MethodName := ⟨"EveningCloak", "standFor", "(II)I"⟩
def rm_K_standFor : Room := { frames := 6, cells := 0, slots := 0, locals := 141 }
theorem cy_K_standFor : Cy y_K_standFor c_K_standFor 3 (some .int) 2 := ⟨lgm 468 (by decide +kernel) rfl, lgm 68 (by decide +kernel) rfl, by decide +kernel, by decide +kernel⟩
theorem im_K_standFor : Cond.instanceMethod y_K_standFor ∈ lg := lgm 466 (by decide +kernel) rfl
theorem se_K_standFor : Cond.selects y_K_standFor.cls y_K_standFor y_K_standFor ∈ lg := lgm 467 (by decide +kernel) rfl
def e_K_standFor : List Ent := [
  (0, .iload_n 1, 1, 1, .null, 0, 0, 0),
  (1, .iconst 0, 1, 2, .int 0, 0, 0, 0),
  (2, .iconst 5, 1, 3, .int 5, 0, 0, 0),
  (3, .invokestatic 40, 3, 6, .null, 0, 0, 0),
  (6, .ifCond .eq 13, 3, 19, .null, 0, 0, 0),
  (9, .iload_n 2, 1, 10, .null, 0, 0, 0),
  (10, .iconst 0, 1, 11, .int 0, 0, 0, 0),
  (11, .bipush 40, 2, 13, .int 40, 0, 0, 0),
  (13, .invokestatic 40, 3, 16, .null, 0, 0, 0),
  (16, .ifCond .ne 9, 3, 25, .null, 0, 0, 0),
  (19, .aload_n 0, 1, 20, .null, 0, 0, 0),
  (20, .iconst 0, 1, 21, .int 0, 0, 0, 0),
  (21, .invokevirtual 48, 3, 24, .null, 0, 0, 0),
  (24, .ireturn, 1, 25, .null, 0, 0, 0),
  (25, .aload_n 0, 1, 26, .null, 0, 0, 0),
  (26, .iconst 1, 1, 27, .int 1, 0, 0, 0),
  (27, .iload_n 1, 1, 28, .null, 0, 0, 0),
  (28, .iload_n 2, 1, 29, .null, 0, 0, 0),
  (29, .invokevirtual 146, 3, 32, .null, 0, 0, 0),
  (32, .ireturn, 1, 33, .null, 0, 0, 0)]
set_option maxRecDepth 100000 in
theorem ek_K_standFor : e_K_standFor.all (eok 0 c_K_standFor) = true := by decide +kernel
def F_K_standFor_19 (t : Nat) (w : A_W) : Option (Int32 × A_W) :=
  (ob w t 0).bind fun o2 =>
  (F_K_finding t 0 w).bind fun p1 =>
  some (p1.1, p1.2)
def F_K_standFor_0 (t : Nat) (x1 : Int32) (x2 : Int32) (w : A_W) : Option (Int32 × A_W) :=
  (F_K_within x1 0 5 w).bind fun p1 =>
  if p1.1 = 0 then
    F_K_standFor_19 t p1.2
  else
    (F_K_within x2 0 40 p1.2).bind fun p3 =>
    if p3.1 = 0 then
      F_K_standFor_19 t p3.2
    else
      (ob p3.2 t 0).bind fun o6 =>
      (F_K_bestFor t 1 x1 x2 p3.2).bind fun p5 =>
      some (p5.1, p5.2)
set_option maxHeartbeats 4000000 in
set_option maxRecDepth 100000 in
theorem s_K_standFor_19 {G : Gx} {X : Cx} {res : Int32 × A_W} (K : Ok G X 0 c_K_standFor 3 (some .int) rm_K_standFor) (hQ : QQ G X (some (.int res.1)) res.2 0 0) (t : Nat) (w : A_W) (h : F_K_standFor_19 t w = some res) : Sm G X w 0 0 [some (.ref t), none, none] [] 19 := by
  unfold F_K_standFor_19 at h
  refine Sm_run K ek_K_standFor 10 2 rfl ?_
  obtain ⟨o2, e_o2, h⟩ := Option.bind_eq_some_iff.mp h
  obtain ⟨p1, e_p1, h⟩ := Option.bind_eq_some_iff.mp h
  refine Sm_callV K (eok_i (eo ek_K_standFor (i := 12) rfl) rfl) cy_K_finding im_K_finding se_K_finding (lgm 249 (by decide +kernel) rfl) ⟨Nat.le_of_ble_eq_true rfl, Nat.le_of_ble_eq_true rfl⟩ (as := [.int 0]) (b := t) (st := []) (ob_e e_o2) (by decide) rfl rfl rfl rfl (Nat.le_of_ble_eq_true rfl) ⟨Nat.le_of_ble_eq_true rfl, Nat.le_of_ble_eq_true rfl⟩ (cn_K_finding e_p1) ?_
  refine Sm_eq (st1 := .int p1.1 :: []) (nc1 := 0) (ns1 := 0) rfl rfl rfl ?_
  obtain rfl := Option.some.inj h
  exact Sm_reti K hQ (eok_i (eo ek_K_standFor (i := 13) rfl) rfl)
set_option maxHeartbeats 4000000 in
set_option maxRecDepth 100000 in
theorem s_K_standFor_0 {G : Gx} {X : Cx} {res : Int32 × A_W} (K : Ok G X 0 c_K_standFor 3 (some .int) rm_K_standFor) (hQ : QQ G X (some (.int res.1)) res.2 0 0) (t : Nat) (x1 : Int32) (x2 : Int32) (w : A_W) (h : F_K_standFor_0 t x1 x2 w = some res) : Sm G X w 0 0 [some (.ref t), some (.int x1), some (.int x2)] [] 0 := by
  unfold F_K_standFor_0 at h
  refine Sm_run K ek_K_standFor 0 3 rfl ?_
  obtain ⟨p1, e_p1, h⟩ := Option.bind_eq_some_iff.mp h
  refine Sm_callS K (eok_i (eo ek_K_standFor (i := 3) rfl) rfl) cy_K_within st_K_within (lgm 243 (by decide +kernel) rfl) ⟨Nat.le_of_ble_eq_true rfl, Nat.le_of_ble_eq_true rfl⟩ (as := [.int x1, .int 0, .int 5]) (st := []) rfl rfl rfl (Nat.le_of_ble_eq_true rfl) ⟨Nat.le_of_ble_eq_true rfl, Nat.le_of_ble_eq_true rfl⟩ (cn_K_within e_p1) ?_
  refine Sm_eq (st1 := .int p1.1 :: []) (nc1 := 0) (ns1 := 0) rfl rfl rfl ?_
  refine Sm_if_eq K (eo ek_K_standFor (i := 4) rfl) (fun c2 => ?_) (fun c2 => ?_)
  · rw [if_pos c2] at h
    exact Sm_le (leR_s (leR_n (leR_n leR_nil))) (s_K_standFor_19 K hQ _ _ h)
  · rw [if_neg c2] at h
    refine Sm_run K ek_K_standFor 5 3 rfl ?_
    obtain ⟨p3, e_p3, h⟩ := Option.bind_eq_some_iff.mp h
    refine Sm_callS K (eok_i (eo ek_K_standFor (i := 8) rfl) rfl) cy_K_within st_K_within (lgm 243 (by decide +kernel) rfl) ⟨Nat.le_of_ble_eq_true rfl, Nat.le_of_ble_eq_true rfl⟩ (as := [.int x2, .int 0, .int 40]) (st := []) rfl rfl rfl (Nat.le_of_ble_eq_true rfl) ⟨Nat.le_of_ble_eq_true rfl, Nat.le_of_ble_eq_true rfl⟩ (cn_K_within e_p3) ?_
    refine Sm_eq (st1 := .int p3.1 :: []) (nc1 := 0) (ns1 := 0) rfl rfl rfl ?_
    refine Sm_if_ne K (eo ek_K_standFor (i := 9) rfl) (fun c4 => ?_) (fun c4 => ?_)
    · rw [if_neg c4] at h
      refine Sm_run K ek_K_standFor 14 4 rfl ?_
      obtain ⟨o6, e_o6, h⟩ := Option.bind_eq_some_iff.mp h
      obtain ⟨p5, e_p5, h⟩ := Option.bind_eq_some_iff.mp h
      refine Sm_callV K (eok_i (eo ek_K_standFor (i := 18) rfl) rfl) cy_K_bestFor im_K_bestFor se_K_bestFor (lgm 456 (by decide +kernel) rfl) ⟨Nat.le_of_ble_eq_true rfl, Nat.le_of_ble_eq_true rfl⟩ (as := [.int 1, .int x1, .int x2]) (b := t) (st := []) (ob_e e_o6) (by decide) rfl rfl rfl rfl (Nat.le_of_ble_eq_true rfl) ⟨Nat.le_of_ble_eq_true rfl, Nat.le_of_ble_eq_true rfl⟩ (cn_K_bestFor e_p5) ?_
      refine Sm_eq (st1 := .int p5.1 :: []) (nc1 := 0) (ns1 := 0) rfl rfl rfl ?_
      obtain rfl := Option.some.inj h
      exact Sm_reti K hQ (eok_i (eo ek_K_standFor (i := 19) rfl) rfl)
    · rw [if_pos c4] at h
      exact Sm_le (leR_s (leR_n (leR_n leR_nil))) (s_K_standFor_19 K hQ _ _ h)
def F_K_standFor (t : Nat) (x1 : Int32) (x2 : Int32) (w : A_W) : Option (Int32 × A_W) := F_K_standFor_0 t x1 x2 w
theorem cn_K_standFor {G : Gx} {t : Nat} {x1 : Int32} {x2 : Int32} {w : A_W} {res : Int32 × A_W} (h : F_K_standFor t x1 x2 w = some res) : Cn G y_K_standFor c_K_standFor 3 (some .int) rm_K_standFor [.ref t, .int x1, .int x2] w (some (.int res.1)) res.2 :=
  Cn_of (own := 0) cy_K_standFor rfl rfl (Nat.le_of_ble_eq_true rfl) rfl (fun X K _ hQ => Sm_le (leR_s (leR_s (leR_s leR_nil))) (s_K_standFor_0 K hQ _ _ _ _ h))
/-! EveningCloak.kindFor(II)I -/
abbrev c_K_kindFor : ByteArray := prog_1_method_22_code
def y_K_kindFor : MethodName := ⟨"EveningCloak", "kindFor", "(II)I"⟩
def rm_K_kindFor : Room := { frames := 6, cells := 0, slots := 0, locals := 141 }
theorem cy_K_kindFor : Cy y_K_kindFor c_K_kindFor 3 (some .int) 2 := ⟨lgm 472 (by decide +kernel) rfl, lgm 68 (by decide +kernel) rfl, by decide +kernel, by decide +kernel⟩
theorem im_K_kindFor : Cond.instanceMethod y_K_kindFor ∈ lg := lgm 470 (by decide +kernel) rfl
theorem se_K_kindFor : Cond.selects y_K_kindFor.cls y_K_kindFor y_K_kindFor ∈ lg := lgm 471 (by decide +kernel) rfl
def e_K_kindFor : List Ent := [
  (0, .aload_n 0, 1, 1, .null, 0, 0, 0),
  (1, .getfield 12, 3, 4, .null, 0, 0, 217),
  (4, .iload_n 1, 1, 5, .null, 0, 0, 0),
  (5, .invokevirtual 75, 3, 8, .null, 0, 0, 0),
  (8, .ifCond .eq 13, 3, 21, .null, 0, 0, 0),
  (11, .iload_n 2, 1, 12, .null, 0, 0, 0),
  (12, .iconst 0, 1, 13, .int 0, 0, 0, 0),
  (13, .bipush 40, 2, 15, .int 40, 0, 0, 0),
  (15, .invokestatic 40, 3, 18, .null, 0, 0, 0),
  (18, .ifCond .ne 9, 3, 27, .null, 0, 0, 0),
  (21, .aload_n 0, 1, 22, .null, 0, 0, 0),
  (22, .iconst 0, 1, 23, .int 0, 0, 0, 0),
  (23, .invokevirtual 48, 3, 26, .null, 0, 0, 0),
  (26, .ireturn, 1, 27, .null, 0, 0, 0),
  (27, .aload_n 0, 1, 28, .null, 0, 0, 0),
  (28, .iconst 2, 1, 29, .int 2, 0, 0, 0),
  (29, .iload_n 1, 1, 30, .null, 0, 0, 0),
  (30, .iload_n 2, 1, 31, .null, 0, 0, 0),
  (31, .invokevirtual 146, 3, 34, .null, 0, 0, 0),
  (34, .ireturn, 1, 35, .null, 0, 0, 0)]
set_option maxRecDepth 100000 in
theorem ek_K_kindFor : e_K_kindFor.all (eok 0 c_K_kindFor) = true := by decide +kernel
def F_K_kindFor_21 (t : Nat) (w : A_W) : Option (Int32 × A_W) :=
  (ob w t 0).bind fun o2 =>
  (F_K_finding t 0 w).bind fun p1 =>
  some (p1.1, p1.2)
def F_K_kindFor_0 (t : Nat) (x1 : Int32) (x2 : Int32) (w : A_W) : Option (Int32 × A_W) :=
  (gr w t 0 0).bind fun a1 =>
  (ob w a1 2).bind fun o3 =>
  (F_R_hasDeposit a1 x1 w).bind fun p2 =>
  if p2.1 = 0 then
    F_K_kindFor_21 t p2.2
  else
    (F_K_within x2 0 40 p2.2).bind fun p5 =>
    if p5.1 = 0 then
      F_K_kindFor_21 t p5.2
    else
      (ob p5.2 t 0).bind fun o8 =>
      (F_K_bestFor t 2 x1 x2 p5.2).bind fun p7 =>
      some (p7.1, p7.2)
set_option maxHeartbeats 4000000 in
set_option maxRecDepth 100000 in
theorem s_K_kindFor_21 {G : Gx} {X : Cx} {res : Int32 × A_W} (K : Ok G X 0 c_K_kindFor 3 (some .int) rm_K_kindFor) (hQ : QQ G X (some (.int res.1)) res.2 0 0) (t : Nat) (w : A_W) (h : F_K_kindFor_21 t w = some res) : Sm G X w 0 0 [some (.ref t), none, none] [] 21 := by
  unfold F_K_kindFor_21 at h
  refine Sm_run K ek_K_kindFor 10 2 rfl ?_
  obtain ⟨o2, e_o2, h⟩ := Option.bind_eq_some_iff.mp h
  obtain ⟨p1, e_p1, h⟩ := Option.bind_eq_some_iff.mp h
  refine Sm_callV K (eok_i (eo ek_K_kindFor (i := 12) rfl) rfl) cy_K_finding im_K_finding se_K_finding (lgm 249 (by decide +kernel) rfl) ⟨Nat.le_of_ble_eq_true rfl, Nat.le_of_ble_eq_true rfl⟩ (as := [.int 0]) (b := t) (st := []) (ob_e e_o2) (by decide) rfl rfl rfl rfl (Nat.le_of_ble_eq_true rfl) ⟨Nat.le_of_ble_eq_true rfl, Nat.le_of_ble_eq_true rfl⟩ (cn_K_finding e_p1) ?_
  refine Sm_eq (st1 := .int p1.1 :: []) (nc1 := 0) (ns1 := 0) rfl rfl rfl ?_
  obtain rfl := Option.some.inj h
  exact Sm_reti K hQ (eok_i (eo ek_K_kindFor (i := 13) rfl) rfl)
set_option maxHeartbeats 4000000 in
set_option maxRecDepth 100000 in
theorem s_K_kindFor_0 {G : Gx} {X : Cx} {res : Int32 × A_W} (K : Ok G X 0 c_K_kindFor 3 (some .int) rm_K_kindFor) (hQ : QQ G X (some (.int res.1)) res.2 0 0) (t : Nat) (x1 : Int32) (x2 : Int32) (w : A_W) (h : F_K_kindFor_0 t x1 x2 w = some res) : Sm G X w 0 0 [some (.ref t), some (.int x1), some (.int x2)] [] 0 := by
  unfold F_K_kindFor_0 at h
  refine Sm_run K ek_K_kindFor 0 1 rfl ?_
  obtain ⟨a1, e_a1, h⟩ := Option.bind_eq_some_iff.mp h
  refine Sm_gr K (eo ek_K_kindFor (i := 1) rfl) e_a1 ?_
  refine Sm_run K ek_K_kindFor 2 1 rfl ?_
  obtain ⟨o3, e_o3, h⟩ := Option.bind_eq_some_iff.mp h
  obtain ⟨p2, e_p2, h⟩ := Option.bind_eq_some_iff.mp h
  refine Sm_callV K (eok_i (eo ek_K_kindFor (i := 3) rfl) rfl) cy_R_hasDeposit im_R_hasDeposit se_R_hasDeposit (lgm 284 (by decide +kernel) rfl) ⟨Nat.le_of_ble_eq_true rfl, Nat.le_of_ble_eq_true rfl⟩ (as := [.int x1]) (b := a1) (st := []) (ob_e e_o3) (by decide) rfl rfl rfl rfl (Nat.le_of_ble_eq_true rfl) ⟨Nat.le_of_ble_eq_true rfl, Nat.le_of_ble_eq_true rfl⟩ (cn_R_hasDeposit e_p2) ?_
  refine Sm_eq (st1 := .int p2.1 :: []) (nc1 := 0) (ns1 := 0) rfl rfl rfl ?_
  refine Sm_if_eq K (eo ek_K_kindFor (i := 4) rfl) (fun c4 => ?_) (fun c4 => ?_)
  · rw [if_pos c4] at h
    exact Sm_le (leR_s (leR_n (leR_n leR_nil))) (s_K_kindFor_21 K hQ _ _ h)
  · rw [if_neg c4] at h
    refine Sm_run K ek_K_kindFor 5 3 rfl ?_
    obtain ⟨p5, e_p5, h⟩ := Option.bind_eq_some_iff.mp h
    refine Sm_callS K (eok_i (eo ek_K_kindFor (i := 8) rfl) rfl) cy_K_within st_K_within (lgm 243 (by decide +kernel) rfl) ⟨Nat.le_of_ble_eq_true rfl, Nat.le_of_ble_eq_true rfl⟩ (as := [.int x2, .int 0, .int 40]) (st := []) rfl rfl rfl (Nat.le_of_ble_eq_true rfl) ⟨Nat.le_of_ble_eq_true rfl, Nat.le_of_ble_eq_true rfl⟩ (cn_K_within e_p5) ?_
    refine Sm_eq (st1 := .int p5.1 :: []) (nc1 := 0) (ns1 := 0) rfl rfl rfl ?_
    refine Sm_if_ne K (eo ek_K_kindFor (i := 9) rfl) (fun c6 => ?_) (fun c6 => ?_)
    · rw [if_neg c6] at h
      refine Sm_run K ek_K_kindFor 14 4 rfl ?_
      obtain ⟨o8, e_o8, h⟩ := Option.bind_eq_some_iff.mp h
      obtain ⟨p7, e_p7, h⟩ := Option.bind_eq_some_iff.mp h
      refine Sm_callV K (eok_i (eo ek_K_kindFor (i := 18) rfl) rfl) cy_K_bestFor im_K_bestFor se_K_bestFor (lgm 456 (by decide +kernel) rfl) ⟨Nat.le_of_ble_eq_true rfl, Nat.le_of_ble_eq_true rfl⟩ (as := [.int 2, .int x1, .int x2]) (b := t) (st := []) (ob_e e_o8) (by decide) rfl rfl rfl rfl (Nat.le_of_ble_eq_true rfl) ⟨Nat.le_of_ble_eq_true rfl, Nat.le_of_ble_eq_true rfl⟩ (cn_K_bestFor e_p7) ?_
      refine Sm_eq (st1 := .int p7.1 :: []) (nc1 := 0) (ns1 := 0) rfl rfl rfl ?_
      obtain rfl := Option.some.inj h
      exact Sm_reti K hQ (eok_i (eo ek_K_kindFor (i := 19) rfl) rfl)
    · rw [if_pos c6] at h
      exact Sm_le (leR_s (leR_n (leR_n leR_nil))) (s_K_kindFor_21 K hQ _ _ h)
def F_K_kindFor (t : Nat) (x1 : Int32) (x2 : Int32) (w : A_W) : Option (Int32 × A_W) := F_K_kindFor_0 t x1 x2 w
theorem cn_K_kindFor {G : Gx} {t : Nat} {x1 : Int32} {x2 : Int32} {w : A_W} {res : Int32 × A_W} (h : F_K_kindFor t x1 x2 w = some res) : Cn G y_K_kindFor c_K_kindFor 3 (some .int) rm_K_kindFor [.ref t, .int x1, .int x2] w (some (.int res.1)) res.2 :=
  Cn_of (own := 0) cy_K_kindFor rfl rfl (Nat.le_of_ble_eq_true rfl) rfl (fun X K _ hQ => Sm_le (leR_s (leR_s (leR_s leR_nil))) (s_K_kindFor_0 K hQ _ _ _ _ h))
/-! EveningCloak.dreamOfLastStand(II)I -/
abbrev c_K_dreamOfLastStand : ByteArray := prog_1_method_58_code
def y_K_dreamOfLastStand : MethodName := ⟨"EveningCloak", "dreamOfLastStand", "(II)I"⟩
def rm_K_dreamOfLastStand : Room := { frames := 5, cells := 0, slots := 0, locals := 113 }
theorem cy_K_dreamOfLastStand : Cy y_K_dreamOfLastStand c_K_dreamOfLastStand 6 (some .int) 2 := ⟨lgm 480 (by decide +kernel) rfl, lgm 68 (by decide +kernel) rfl, by decide +kernel, by decide +kernel⟩
theorem im_K_dreamOfLastStand : Cond.instanceMethod y_K_dreamOfLastStand ∈ lg := lgm 479 (by decide +kernel) rfl
theorem se_K_dreamOfLastStand : Cond.selects y_K_dreamOfLastStand.cls y_K_dreamOfLastStand y_K_dreamOfLastStand ∈ lg := lgm 4 (by decide +kernel) rfl
def e_K_dreamOfLastStand : List Ent := [
  (0, .aload_n 0, 1, 1, .null, 0, 0, 0),
  (1, .getfield 16, 3, 4, .null, 0, 1, 218),
  (4, .aload_n 0, 1, 5, .null, 0, 0, 0),
  (5, .getfield 12, 3, 8, .null, 0, 0, 217),
  (8, .invokevirtual 187, 3, 11, .null, 0, 0, 0),
  (11, .aload_n 0, 1, 12, .null, 0, 0, 0),
  (12, .getfield 16, 3, 15, .null, 0, 1, 218),
  (15, .getfield 268, 3, 18, .null, 2, 13, 132),
  (18, .iload_n 1, 1, 19, .null, 0, 0, 0),
  (19, .bipush 100, 2, 21, .int 100, 0, 0, 0),
  (21, .iastore, 1, 22, .null, 0, 0, 0),
  (22, .iconst 0, 1, 23, .int 0, 0, 0, 0),
  (23, .istore_n 3, 1, 24, .null, 0, 0, 0),
  (24, .iconst 0, 1, 25, .int 0, 0, 0, 0),
  (25, .istore 4, 2, 27, .null, 0, 0, 0),
  (27, .iload 4, 2, 29, .null, 0, 0, 0),
  (29, .iload_n 2, 1, 30, .null, 0, 0, 0),
  (30, .if_icmp .ge 50, 3, 80, .null, 0, 0, 0),
  (33, .aload_n 0, 1, 34, .null, 0, 0, 0),
  (34, .getfield 16, 3, 37, .null, 0, 1, 218),
  (37, .invokevirtual 271, 3, 40, .null, 0, 0, 0),
  (40, .iload_n 1, 1, 41, .null, 0, 0, 0),
  (41, .if_icmp .ne 7, 3, 48, .null, 0, 0, 0),
  (44, .iconst 1, 1, 45, .int 1, 0, 0, 0),
  (45, .goto 4, 3, 49, .null, 0, 0, 0),
  (48, .iconst 0, 1, 49, .int 0, 0, 0, 0),
  (49, .istore 5, 2, 51, .null, 0, 0, 0),
  (51, .aload_n 0, 1, 52, .null, 0, 0, 0),
  (52, .getfield 16, 3, 55, .null, 0, 1, 218),
  (55, .iconst 1, 1, 56, .int 1, 0, 0, 0),
  (56, .invokevirtual 113, 3, 59, .null, 0, 0, 0),
  (59, .iload 5, 2, 61, .null, 0, 0, 0),
  (61, .ifCond .eq 13, 3, 74, .null, 0, 0, 0),
  (64, .aload_n 0, 1, 65, .null, 0, 0, 0),
  (65, .getfield 16, 3, 68, .null, 0, 1, 218),
  (68, .getfield 274, 3, 71, .null, 2, 12, 129),
  (71, .iload_n 1, 1, 72, .null, 0, 0, 0),
  (72, .iaload, 1, 73, .null, 0, 0, 0),
  (73, .istore_n 3, 1, 74, .null, 0, 0, 0),
  (74, .iinc 4 1, 3, 77, .int 1, 0, 0, 0),
  (77, .goto (-50), 3, 27, .null, 0, 0, 0),
  (80, .iload_n 3, 1, 81, .null, 0, 0, 0),
  (81, .ireturn, 1, 82, .null, 0, 0, 0)]
set_option maxRecDepth 100000 in
theorem ek_K_dreamOfLastStand : e_K_dreamOfLastStand.all (eok 0 c_K_dreamOfLastStand) = true := by decide +kernel
def F_K_dreamOfLastStand_74 (k27 : Nat → Int32 → Int32 → Int32 → Int32 → A_W → Option (Int32 × A_W)) (t : Nat) (x1 : Int32) (x2 : Int32) (x3 : Int32) (x4 : Int32) (w : A_W) : Option (Int32 × A_W) :=
  k27 t x1 x2 x3 (x4 + 1) w
def F_K_dreamOfLastStand_49 (k27 : Nat → Int32 → Int32 → Int32 → Int32 → A_W → Option (Int32 × A_W)) (t : Nat) (x1 : Int32) (x2 : Int32) (x3 : Int32) (x4 : Int32) (y0 : Int32) (w : A_W) : Option (Int32 × A_W) :=
  (gr w t 0 1).bind fun a1 =>
  (ob w a1 2).bind fun o3 =>
  (F_R_passDays a1 1 w).bind fun p2 =>
  if y0 = 0 then
    F_K_dreamOfLastStand_74 k27 t x1 x2 x3 x4 p2
  else
    (gr p2 t 0 1).bind fun a5 =>
    (gr p2 a5 2 12).bind fun a6 =>
    (rd p2 a6 x1).bind fun v7 =>
    F_K_dreamOfLastStand_74 k27 t x1 x2 v7 x4 p2
def F_K_dreamOfLastStand_27 : Nat → Nat → Int32 → Int32 → Int32 → Int32 → A_W → Option (Int32 × A_W)
  | 0, _, _, _, _, _, _ => none
  | n + 1, t, x1, x2, x3, x4, w =>
    if x2 ≤ x4 then
      some (x3, w)
    else
      (gr w t 0 1).bind fun a2 =>
      (ob w a2 2).bind fun o4 =>
      (F_R_girlOfDay a2 w).bind fun p3 =>
      if p3.1 = x1 then
        F_K_dreamOfLastStand_49 (F_K_dreamOfLastStand_27 n) t x1 x2 x3 x4 1 p3.2
      else
        F_K_dreamOfLastStand_49 (F_K_dreamOfLastStand_27 n) t x1 x2 x3 x4 0 p3.2
def F_K_dreamOfLastStand_0 (t : Nat) (x1 : Int32) (x2 : Int32) (w : A_W) : Option (Int32 × A_W) :=
  (gr w t 0 1).bind fun a1 =>
  (gr w t 0 0).bind fun a2 =>
  (ob w a1 2).bind fun o4 =>
  (F_R_become a1 a2 w).bind fun p3 =>
  (gr p3 t 0 1).bind fun a5 =>
  (gr p3 a5 2 13).bind fun a6 =>
  (wr p3 a6 x1 100).bind fun w7 =>
  F_K_dreamOfLastStand_27 FU t x1 x2 0 0 w7
set_option maxHeartbeats 4000000 in
set_option maxRecDepth 100000 in
theorem s_K_dreamOfLastStand_74 {G : Gx} {X : Cx} {res : Int32 × A_W} (K : Ok G X 0 c_K_dreamOfLastStand 6 (some .int) rm_K_dreamOfLastStand) (hQ : QQ G X (some (.int res.1)) res.2 0 0) {k27 : Nat → Int32 → Int32 → Int32 → Int32 → A_W → Option (Int32 × A_W)} (hk27 : ∀ (t : Nat) (x1 : Int32) (x2 : Int32) (x3 : Int32) (x4 : Int32) (w : A_W), k27 t x1 x2 x3 x4 w = some res → Sm G X w 0 0 [some (.ref t), some (.int x1), some (.int x2), some (.int x3), some (.int x4), none] [] 27) (t : Nat) (x1 : Int32) (x2 : Int32) (x3 : Int32) (x4 : Int32) (w : A_W) (h : F_K_dreamOfLastStand_74 k27 t x1 x2 x3 x4 w = some res) : Sm G X w 0 0 [some (.ref t), some (.int x1), some (.int x2), some (.int x3), some (.int x4), none] [] 74 := by
  unfold F_K_dreamOfLastStand_74 at h
  refine Sm_run K ek_K_dreamOfLastStand 39 2 rfl ?_
  exact Sm_le (leR_s (leR_s (leR_s (leR_s (leR_s (leR_n leR_nil)))))) (hk27 _ _ _ _ _ _ h)
set_option maxHeartbeats 4000000 in
set_option maxRecDepth 100000 in
theorem s_K_dreamOfLastStand_49 {G : Gx} {X : Cx} {res : Int32 × A_W} (K : Ok G X 0 c_K_dreamOfLastStand 6 (some .int) rm_K_dreamOfLastStand) (hQ : QQ G X (some (.int res.1)) res.2 0 0) {k27 : Nat → Int32 → Int32 → Int32 → Int32 → A_W → Option (Int32 × A_W)} (hk27 : ∀ (t : Nat) (x1 : Int32) (x2 : Int32) (x3 : Int32) (x4 : Int32) (w : A_W), k27 t x1 x2 x3 x4 w = some res → Sm G X w 0 0 [some (.ref t), some (.int x1), some (.int x2), some (.int x3), some (.int x4), none] [] 27) (t : Nat) (x1 : Int32) (x2 : Int32) (x3 : Int32) (x4 : Int32) (y0 : Int32) (w : A_W) (h : F_K_dreamOfLastStand_49 k27 t x1 x2 x3 x4 y0 w = some res) : Sm G X w 0 0 [some (.ref t), some (.int x1), some (.int x2), some (.int x3), some (.int x4), none] [.int y0] 49 := by
  unfold F_K_dreamOfLastStand_49 at h
  refine Sm_run K ek_K_dreamOfLastStand 26 2 rfl ?_
  obtain ⟨a1, e_a1, h⟩ := Option.bind_eq_some_iff.mp h
  refine Sm_gr K (eo ek_K_dreamOfLastStand (i := 28) rfl) e_a1 ?_
  refine Sm_run K ek_K_dreamOfLastStand 29 1 rfl ?_
  obtain ⟨o3, e_o3, h⟩ := Option.bind_eq_some_iff.mp h
  obtain ⟨p2, e_p2, h⟩ := Option.bind_eq_some_iff.mp h
  refine Sm_callV K (eok_i (eo ek_K_dreamOfLastStand (i := 30) rfl) rfl) cy_R_passDays im_R_passDays se_R_passDays (lgm 367 (by decide +kernel) rfl) ⟨Nat.le_of_ble_eq_true rfl, Nat.le_of_ble_eq_true rfl⟩ (as := [.int 1]) (b := a1) (st := []) (ob_e e_o3) (by decide) rfl rfl rfl rfl (Nat.le_of_ble_eq_true rfl) ⟨Nat.le_of_ble_eq_true rfl, Nat.le_of_ble_eq_true rfl⟩ (cn_R_passDays e_p2) ?_
  refine Sm_eq (st1 := []) (nc1 := 0) (ns1 := 0) rfl rfl rfl ?_
  refine Sm_run K ek_K_dreamOfLastStand 31 1 rfl ?_
  refine Sm_if_eq K (eo ek_K_dreamOfLastStand (i := 32) rfl) (fun c4 => ?_) (fun c4 => ?_)
  · rw [if_pos c4] at h
    exact Sm_le (leR_s (leR_s (leR_s (leR_s (leR_s (leR_n leR_nil)))))) (s_K_dreamOfLastStand_74 K hQ hk27 _ _ _ _ _ _ h)
  · rw [if_neg c4] at h
    refine Sm_run K ek_K_dreamOfLastStand 33 1 rfl ?_
    obtain ⟨a5, e_a5, h⟩ := Option.bind_eq_some_iff.mp h
    refine Sm_gr K (eo ek_K_dreamOfLastStand (i := 34) rfl) e_a5 ?_
    obtain ⟨a6, e_a6, h⟩ := Option.bind_eq_some_iff.mp h
    refine Sm_gr K (eo ek_K_dreamOfLastStand (i := 35) rfl) e_a6 ?_
    refine Sm_run K ek_K_dreamOfLastStand 36 1 rfl ?_
    obtain ⟨v7, e_v7, h⟩ := Option.bind_eq_some_iff.mp h
    refine Sm_rd K (eok_i (eo ek_K_dreamOfLastStand (i := 37) rfl) rfl) e_v7 ?_
    refine Sm_run K ek_K_dreamOfLastStand 38 1 rfl ?_
    exact Sm_le (leR_s (leR_s (leR_s (leR_s (leR_s (leR_n leR_nil)))))) (s_K_dreamOfLastStand_74 K hQ hk27 _ _ _ _ _ _ h)
set_option maxHeartbeats 4000000 in
set_option maxRecDepth 100000 in
theorem s_K_dreamOfLastStand_27 {G : Gx} {X : Cx} {res : Int32 × A_W} (K : Ok G X 0 c_K_dreamOfLastStand 6 (some .int) rm_K_dreamOfLastStand) (hQ : QQ G X (some (.int res.1)) res.2 0 0) : ∀ (n : Nat) (t : Nat) (x1 : Int32) (x2 : Int32) (x3 : Int32) (x4 : Int32) (w : A_W), F_K_dreamOfLastStand_27 n t x1 x2 x3 x4 w = some res → Sm G X w 0 0 [some (.ref t), some (.int x1), some (.int x2), some (.int x3), some (.int x4), none] [] 27 := by
  intro n
  induction n with
  | zero => intro t x1 x2 x3 x4 w h; cases h
  | succ n ih =>
    intro t x1 x2 x3 x4 w h
    rw [F_K_dreamOfLastStand_27] at h
    refine Sm_run K ek_K_dreamOfLastStand 15 2 rfl ?_
    refine Sm_ic_ge K (eo ek_K_dreamOfLastStand (i := 17) rfl) (fun c1 => ?_) (fun c1 => ?_)
    · rw [if_pos c1] at h
      refine Sm_run K ek_K_dreamOfLastStand 41 1 rfl ?_
      obtain rfl := Option.some.inj h
      exact Sm_reti K hQ (eok_i (eo ek_K_dreamOfLastStand (i := 42) rfl) rfl)
    · rw [if_neg c1] at h
      refine Sm_run K ek_K_dreamOfLastStand 18 1 rfl ?_
      obtain ⟨a2, e_a2, h⟩ := Option.bind_eq_some_iff.mp h
      refine Sm_gr K (eo ek_K_dreamOfLastStand (i := 19) rfl) e_a2 ?_
      obtain ⟨o4, e_o4, h⟩ := Option.bind_eq_some_iff.mp h
      obtain ⟨p3, e_p3, h⟩ := Option.bind_eq_some_iff.mp h
      refine Sm_callV K (eok_i (eo ek_K_dreamOfLastStand (i := 20) rfl) rfl) cy_R_girlOfDay im_R_girlOfDay se_R_girlOfDay (lgm 481 (by decide +kernel) rfl) ⟨Nat.le_of_ble_eq_true rfl, Nat.le_of_ble_eq_true rfl⟩ (as := []) (b := a2) (st := []) (ob_e e_o4) (by decide) rfl rfl rfl rfl (Nat.le_of_ble_eq_true rfl) ⟨Nat.le_of_ble_eq_true rfl, Nat.le_of_ble_eq_true rfl⟩ (cn_R_girlOfDay e_p3) ?_
      refine Sm_eq (st1 := .int p3.1 :: []) (nc1 := 0) (ns1 := 0) rfl rfl rfl ?_
      refine Sm_run K ek_K_dreamOfLastStand 21 1 rfl ?_
      refine Sm_ic_ne K (eo ek_K_dreamOfLastStand (i := 22) rfl) (fun c5 => ?_) (fun c5 => ?_)
      · rw [if_neg c5] at h
        refine Sm_run K ek_K_dreamOfLastStand 25 1 rfl ?_
        exact Sm_le (leR_s (leR_s (leR_s (leR_s (leR_s (leR_n leR_nil)))))) (s_K_dreamOfLastStand_49 K hQ ih _ _ _ _ _ _ _ h)
      · rw [if_pos c5] at h
        refine Sm_run K ek_K_dreamOfLastStand 23 2 rfl ?_
        exact Sm_le (leR_s (leR_s (leR_s (leR_s (leR_s (leR_n leR_nil)))))) (s_K_dreamOfLastStand_49 K hQ ih _ _ _ _ _ _ _ h)
set_option maxHeartbeats 4000000 in
set_option maxRecDepth 100000 in
theorem s_K_dreamOfLastStand_0 {G : Gx} {X : Cx} {res : Int32 × A_W} (K : Ok G X 0 c_K_dreamOfLastStand 6 (some .int) rm_K_dreamOfLastStand) (hQ : QQ G X (some (.int res.1)) res.2 0 0) (t : Nat) (x1 : Int32) (x2 : Int32) (w : A_W) (h : F_K_dreamOfLastStand_0 t x1 x2 w = some res) : Sm G X w 0 0 [some (.ref t), some (.int x1), some (.int x2), none, none, none] [] 0 := by
  unfold F_K_dreamOfLastStand_0 at h
  refine Sm_run K ek_K_dreamOfLastStand 0 1 rfl ?_
  obtain ⟨a1, e_a1, h⟩ := Option.bind_eq_some_iff.mp h
  refine Sm_gr K (eo ek_K_dreamOfLastStand (i := 1) rfl) e_a1 ?_
  refine Sm_run K ek_K_dreamOfLastStand 2 1 rfl ?_
  obtain ⟨a2, e_a2, h⟩ := Option.bind_eq_some_iff.mp h
  refine Sm_gr K (eo ek_K_dreamOfLastStand (i := 3) rfl) e_a2 ?_
  obtain ⟨o4, e_o4, h⟩ := Option.bind_eq_some_iff.mp h
  obtain ⟨p3, e_p3, h⟩ := Option.bind_eq_some_iff.mp h
  refine Sm_callV K (eok_i (eo ek_K_dreamOfLastStand (i := 4) rfl) rfl) cy_R_become im_R_become se_R_become (lgm 417 (by decide +kernel) rfl) ⟨Nat.le_of_ble_eq_true rfl, Nat.le_of_ble_eq_true rfl⟩ (as := [.ref a2]) (b := a1) (st := []) (ob_e e_o4) (by decide) rfl rfl rfl rfl (Nat.le_of_ble_eq_true rfl) ⟨Nat.le_of_ble_eq_true rfl, Nat.le_of_ble_eq_true rfl⟩ (cn_R_become e_p3) ?_
  refine Sm_eq (st1 := []) (nc1 := 0) (ns1 := 0) rfl rfl rfl ?_
  refine Sm_run K ek_K_dreamOfLastStand 5 1 rfl ?_
  obtain ⟨a5, e_a5, h⟩ := Option.bind_eq_some_iff.mp h
  refine Sm_gr K (eo ek_K_dreamOfLastStand (i := 6) rfl) e_a5 ?_
  obtain ⟨a6, e_a6, h⟩ := Option.bind_eq_some_iff.mp h
  refine Sm_gr K (eo ek_K_dreamOfLastStand (i := 7) rfl) e_a6 ?_
  refine Sm_run K ek_K_dreamOfLastStand 8 2 rfl ?_
  obtain ⟨w7, e_w7, h⟩ := Option.bind_eq_some_iff.mp h
  refine Sm_wr K (eok_i (eo ek_K_dreamOfLastStand (i := 10) rfl) rfl) e_w7 ?_
  refine Sm_run K ek_K_dreamOfLastStand 11 4 rfl ?_
  exact Sm_le (leR_s (leR_s (leR_s (leR_s (leR_s (leR_n leR_nil)))))) (s_K_dreamOfLastStand_27 K hQ FU _ _ _ _ _ _ h)
def F_K_dreamOfLastStand (t : Nat) (x1 : Int32) (x2 : Int32) (w : A_W) : Option (Int32 × A_W) := F_K_dreamOfLastStand_0 t x1 x2 w
theorem cn_K_dreamOfLastStand {G : Gx} {t : Nat} {x1 : Int32} {x2 : Int32} {w : A_W} {res : Int32 × A_W} (h : F_K_dreamOfLastStand t x1 x2 w = some res) : Cn G y_K_dreamOfLastStand c_K_dreamOfLastStand 6 (some .int) rm_K_dreamOfLastStand [.ref t, .int x1, .int x2] w (some (.int res.1)) res.2 :=
  Cn_of (own := 0) cy_K_dreamOfLastStand rfl rfl (Nat.le_of_ble_eq_true rfl) rfl (fun X K _ hQ => Sm_le (leR_s (leR_s (leR_s (leR_n (leR_n (leR_n leR_nil)))))) (s_K_dreamOfLastStand_0 K hQ _ _ _ _ h))
/-! EveningCloak.hopeFor(II)I -/
abbrev c_K_hopeFor : ByteArray := prog_1_method_23_code
def y_K_hopeFor : MethodName := ⟨"EveningCloak", "hopeFor", "(II)I"⟩
def rm_K_hopeFor : Room := { frames := 6, cells := 0, slots := 0, locals := 138 }
theorem cy_K_hopeFor : Cy y_K_hopeFor c_K_hopeFor 4 (some .int) 2 := ⟨lgm 476 (by decide +kernel) rfl, lgm 68 (by decide +kernel) rfl, by decide +kernel, by decide +kernel⟩
theorem im_K_hopeFor : Cond.instanceMethod y_K_hopeFor ∈ lg := lgm 474 (by decide +kernel) rfl
theorem se_K_hopeFor : Cond.selects y_K_hopeFor.cls y_K_hopeFor y_K_hopeFor ∈ lg := lgm 475 (by decide +kernel) rfl
def e_K_hopeFor : List Ent := [
  (0, .aload_n 0, 1, 1, .null, 0, 0, 0),
  (1, .getfield 12, 3, 4, .null, 0, 0, 217),
  (4, .iload_n 1, 1, 5, .null, 0, 0, 0),
  (5, .invokevirtual 88, 3, 8, .null, 0, 0, 0),
  (8, .ifCond .eq 13, 3, 21, .null, 0, 0, 0),
  (11, .iload_n 2, 1, 12, .null, 0, 0, 0),
  (12, .iconst 0, 1, 13, .int 0, 0, 0, 0),
  (13, .bipush 40, 2, 15, .int 40, 0, 0, 0),
  (15, .invokestatic 40, 3, 18, .null, 0, 0, 0),
  (18, .ifCond .ne 9, 3, 27, .null, 0, 0, 0),
  (21, .aload_n 0, 1, 22, .null, 0, 0, 0),
  (22, .iconst 0, 1, 23, .int 0, 0, 0, 0),
  (23, .invokevirtual 48, 3, 26, .null, 0, 0, 0),
  (26, .ireturn, 1, 27, .null, 0, 0, 0),
  (27, .aload_n 0, 1, 28, .null, 0, 0, 0),
  (28, .iload_n 1, 1, 29, .null, 0, 0, 0),
  (29, .iload_n 2, 1, 30, .null, 0, 0, 0),
  (30, .invokevirtual 149, 3, 33, .null, 0, 0, 0),
  (33, .istore_n 3, 1, 34, .null, 0, 0, 0),
  (34, .iload_n 3, 1, 35, .null, 0, 0, 0),
  (35, .ifCond .eq 18, 3, 53, .null, 0, 0, 0),
  (38, .aload_n 0, 1, 39, .null, 0, 0, 0),
  (39, .getfield 12, 3, 42, .null, 0, 0, 217),
  (42, .getfield 152, 3, 45, .null, 2, 14, 134),
  (45, .iload_n 1, 1, 46, .null, 0, 0, 0),
  (46, .iaload, 1, 47, .null, 0, 0, 0),
  (47, .sipush 9999, 3, 50, .int 9999, 0, 0, 0),
  (50, .if_icmp .lt 11, 3, 61, .null, 0, 0, 0),
  (53, .aload_n 0, 1, 54, .null, 0, 0, 0),
  (54, .iconst 3, 1, 55, .int 3, 0, 0, 0),
  (55, .invokevirtual 48, 3, 58, .null, 0, 0, 0),
  (58, .goto 4, 3, 62, .null, 0, 0, 0),
  (61, .iload_n 3, 1, 62, .null, 0, 0, 0),
  (62, .ireturn, 1, 63, .null, 0, 0, 0)]
set_option maxRecDepth 100000 in
theorem ek_K_hopeFor : e_K_hopeFor.all (eok 0 c_K_hopeFor) = true := by decide +kernel
def F_K_hopeFor_21 (t : Nat) (w : A_W) : Option (Int32 × A_W) :=
  (ob w t 0).bind fun o2 =>
  (F_K_finding t 0 w).bind fun p1 =>
  some (p1.1, p1.2)
def F_K_hopeFor_62 (y0 : Int32) (w : A_W) : Option (Int32 × A_W) :=
  some (y0, w)
def F_K_hopeFor_53 (t : Nat) (w : A_W) : Option (Int32 × A_W) :=
  (ob w t 0).bind fun o2 =>
  (F_K_finding t 3 w).bind fun p1 =>
  F_K_hopeFor_62 p1.1 p1.2
def F_K_hopeFor_0 (t : Nat) (x1 : Int32) (x2 : Int32) (w : A_W) : Option (Int32 × A_W) :=
  (gr w t 0 0).bind fun a1 =>
  (ob w a1 2).bind fun o3 =>
  (F_R_hasGirl a1 x1 w).bind fun p2 =>
  if p2.1 = 0 then
    F_K_hopeFor_21 t p2.2
  else
    (F_K_within x2 0 40 p2.2).bind fun p5 =>
    if p5.1 = 0 then
      F_K_hopeFor_21 t p5.2
    else
      (ob p5.2 t 0).bind fun o8 =>
      (F_K_dreamOfLastStand t x1 x2 p5.2).bind fun p7 =>
      if p7.1 = 0 then
        F_K_hopeFor_53 t p7.2
      else
        (gr p7.2 t 0 0).bind fun a10 =>
        (gr p7.2 a10 2 14).bind fun a11 =>
        (rd p7.2 a11 x1).bind fun v12 =>
        if v12 < 9999 then
          F_K_hopeFor_62 p7.1 p7.2
        else
          F_K_hopeFor_53 t p7.2
set_option maxHeartbeats 4000000 in
set_option maxRecDepth 100000 in
theorem s_K_hopeFor_21 {G : Gx} {X : Cx} {res : Int32 × A_W} (K : Ok G X 0 c_K_hopeFor 4 (some .int) rm_K_hopeFor) (hQ : QQ G X (some (.int res.1)) res.2 0 0) (t : Nat) (w : A_W) (h : F_K_hopeFor_21 t w = some res) : Sm G X w 0 0 [some (.ref t), none, none, none] [] 21 := by
  unfold F_K_hopeFor_21 at h
  refine Sm_run K ek_K_hopeFor 10 2 rfl ?_
  obtain ⟨o2, e_o2, h⟩ := Option.bind_eq_some_iff.mp h
  obtain ⟨p1, e_p1, h⟩ := Option.bind_eq_some_iff.mp h
  refine Sm_callV K (eok_i (eo ek_K_hopeFor (i := 12) rfl) rfl) cy_K_finding im_K_finding se_K_finding (lgm 249 (by decide +kernel) rfl) ⟨Nat.le_of_ble_eq_true rfl, Nat.le_of_ble_eq_true rfl⟩ (as := [.int 0]) (b := t) (st := []) (ob_e e_o2) (by decide) rfl rfl rfl rfl (Nat.le_of_ble_eq_true rfl) ⟨Nat.le_of_ble_eq_true rfl, Nat.le_of_ble_eq_true rfl⟩ (cn_K_finding e_p1) ?_
  refine Sm_eq (st1 := .int p1.1 :: []) (nc1 := 0) (ns1 := 0) rfl rfl rfl ?_
  obtain rfl := Option.some.inj h
  exact Sm_reti K hQ (eok_i (eo ek_K_hopeFor (i := 13) rfl) rfl)
set_option maxHeartbeats 4000000 in
set_option maxRecDepth 100000 in
theorem s_K_hopeFor_62 {G : Gx} {X : Cx} {res : Int32 × A_W} (K : Ok G X 0 c_K_hopeFor 4 (some .int) rm_K_hopeFor) (hQ : QQ G X (some (.int res.1)) res.2 0 0) (y0 : Int32) (w : A_W) (h : F_K_hopeFor_62 y0 w = some res) : Sm G X w 0 0 [none, none, none, none] [.int y0] 62 := by
  unfold F_K_hopeFor_62 at h
  obtain rfl := Option.some.inj h
  exact Sm_reti K hQ (eok_i (eo ek_K_hopeFor (i := 33) rfl) rfl)
set_option maxHeartbeats 4000000 in
set_option maxRecDepth 100000 in
theorem s_K_hopeFor_53 {G : Gx} {X : Cx} {res : Int32 × A_W} (K : Ok G X 0 c_K_hopeFor 4 (some .int) rm_K_hopeFor) (hQ : QQ G X (some (.int res.1)) res.2 0 0) (t : Nat) (w : A_W) (h : F_K_hopeFor_53 t w = some res) : Sm G X w 0 0 [some (.ref t), none, none, none] [] 53 := by
  unfold F_K_hopeFor_53 at h
  refine Sm_run K ek_K_hopeFor 28 2 rfl ?_
  obtain ⟨o2, e_o2, h⟩ := Option.bind_eq_some_iff.mp h
  obtain ⟨p1, e_p1, h⟩ := Option.bind_eq_some_iff.mp h
  refine Sm_callV K (eok_i (eo ek_K_hopeFor (i := 30) rfl) rfl) cy_K_finding im_K_finding se_K_finding (lgm 249 (by decide +kernel) rfl) ⟨Nat.le_of_ble_eq_true rfl, Nat.le_of_ble_eq_true rfl⟩ (as := [.int 3]) (b := t) (st := []) (ob_e e_o2) (by decide) rfl rfl rfl rfl (Nat.le_of_ble_eq_true rfl) ⟨Nat.le_of_ble_eq_true rfl, Nat.le_of_ble_eq_true rfl⟩ (cn_K_finding e_p1) ?_
  refine Sm_eq (st1 := .int p1.1 :: []) (nc1 := 0) (ns1 := 0) rfl rfl rfl ?_
  refine Sm_run K ek_K_hopeFor 31 1 rfl ?_
  exact Sm_le (leR_n (leR_n (leR_n (leR_n leR_nil)))) (s_K_hopeFor_62 K hQ _ _ h)
set_option maxHeartbeats 4000000 in
set_option maxRecDepth 100000 in
theorem s_K_hopeFor_0 {G : Gx} {X : Cx} {res : Int32 × A_W} (K : Ok G X 0 c_K_hopeFor 4 (some .int) rm_K_hopeFor) (hQ : QQ G X (some (.int res.1)) res.2 0 0) (t : Nat) (x1 : Int32) (x2 : Int32) (w : A_W) (h : F_K_hopeFor_0 t x1 x2 w = some res) : Sm G X w 0 0 [some (.ref t), some (.int x1), some (.int x2), none] [] 0 := by
  unfold F_K_hopeFor_0 at h
  refine Sm_run K ek_K_hopeFor 0 1 rfl ?_
  obtain ⟨a1, e_a1, h⟩ := Option.bind_eq_some_iff.mp h
  refine Sm_gr K (eo ek_K_hopeFor (i := 1) rfl) e_a1 ?_
  refine Sm_run K ek_K_hopeFor 2 1 rfl ?_
  obtain ⟨o3, e_o3, h⟩ := Option.bind_eq_some_iff.mp h
  obtain ⟨p2, e_p2, h⟩ := Option.bind_eq_some_iff.mp h
  refine Sm_callV K (eok_i (eo ek_K_hopeFor (i := 3) rfl) rfl) cy_R_hasGirl im_R_hasGirl se_R_hasGirl (lgm 337 (by decide +kernel) rfl) ⟨Nat.le_of_ble_eq_true rfl, Nat.le_of_ble_eq_true rfl⟩ (as := [.int x1]) (b := a1) (st := []) (ob_e e_o3) (by decide) rfl rfl rfl rfl (Nat.le_of_ble_eq_true rfl) ⟨Nat.le_of_ble_eq_true rfl, Nat.le_of_ble_eq_true rfl⟩ (cn_R_hasGirl e_p2) ?_
  refine Sm_eq (st1 := .int p2.1 :: []) (nc1 := 0) (ns1 := 0) rfl rfl rfl ?_
  refine Sm_if_eq K (eo ek_K_hopeFor (i := 4) rfl) (fun c4 => ?_) (fun c4 => ?_)
  · rw [if_pos c4] at h
    exact Sm_le (leR_s (leR_n (leR_n (leR_n leR_nil)))) (s_K_hopeFor_21 K hQ _ _ h)
  · rw [if_neg c4] at h
    refine Sm_run K ek_K_hopeFor 5 3 rfl ?_
    obtain ⟨p5, e_p5, h⟩ := Option.bind_eq_some_iff.mp h
    refine Sm_callS K (eok_i (eo ek_K_hopeFor (i := 8) rfl) rfl) cy_K_within st_K_within (lgm 243 (by decide +kernel) rfl) ⟨Nat.le_of_ble_eq_true rfl, Nat.le_of_ble_eq_true rfl⟩ (as := [.int x2, .int 0, .int 40]) (st := []) rfl rfl rfl (Nat.le_of_ble_eq_true rfl) ⟨Nat.le_of_ble_eq_true rfl, Nat.le_of_ble_eq_true rfl⟩ (cn_K_within e_p5) ?_
    refine Sm_eq (st1 := .int p5.1 :: []) (nc1 := 0) (ns1 := 0) rfl rfl rfl ?_
    refine Sm_if_ne K (eo ek_K_hopeFor (i := 9) rfl) (fun c6 => ?_) (fun c6 => ?_)
    · rw [if_neg c6] at h
      refine Sm_run K ek_K_hopeFor 14 3 rfl ?_
      obtain ⟨o8, e_o8, h⟩ := Option.bind_eq_some_iff.mp h
      obtain ⟨p7, e_p7, h⟩ := Option.bind_eq_some_iff.mp h
      refine Sm_callV K (eok_i (eo ek_K_hopeFor (i := 17) rfl) rfl) cy_K_dreamOfLastStand im_K_dreamOfLastStand se_K_dreamOfLastStand (lgm 477 (by decide +kernel) rfl) ⟨Nat.le_of_ble_eq_true rfl, Nat.le_of_ble_eq_true rfl⟩ (as := [.int x1, .int x2]) (b := t) (st := []) (ob_e e_o8) (by decide) rfl rfl rfl rfl (Nat.le_of_ble_eq_true rfl) ⟨Nat.le_of_ble_eq_true rfl, Nat.le_of_ble_eq_true rfl⟩ (cn_K_dreamOfLastStand e_p7) ?_
      refine Sm_eq (st1 := .int p7.1 :: []) (nc1 := 0) (ns1 := 0) rfl rfl rfl ?_
      refine Sm_run K ek_K_hopeFor 18 2 rfl ?_
      refine Sm_if_eq K (eo ek_K_hopeFor (i := 20) rfl) (fun c9 => ?_) (fun c9 => ?_)
      · rw [if_pos c9] at h
        exact Sm_le (leR_s (leR_n (leR_n (leR_n leR_nil)))) (s_K_hopeFor_53 K hQ _ _ h)
      · rw [if_neg c9] at h
        refine Sm_run K ek_K_hopeFor 21 1 rfl ?_
        obtain ⟨a10, e_a10, h⟩ := Option.bind_eq_some_iff.mp h
        refine Sm_gr K (eo ek_K_hopeFor (i := 22) rfl) e_a10 ?_
        obtain ⟨a11, e_a11, h⟩ := Option.bind_eq_some_iff.mp h
        refine Sm_gr K (eo ek_K_hopeFor (i := 23) rfl) e_a11 ?_
        refine Sm_run K ek_K_hopeFor 24 1 rfl ?_
        obtain ⟨v12, e_v12, h⟩ := Option.bind_eq_some_iff.mp h
        refine Sm_rd K (eok_i (eo ek_K_hopeFor (i := 25) rfl) rfl) e_v12 ?_
        refine Sm_run K ek_K_hopeFor 26 1 rfl ?_
        refine Sm_ic_lt K (eo ek_K_hopeFor (i := 27) rfl) (fun c13 => ?_) (fun c13 => ?_)
        · rw [if_pos c13] at h
          refine Sm_run K ek_K_hopeFor 32 1 rfl ?_
          exact Sm_le (leR_n (leR_n (leR_n (leR_n leR_nil)))) (s_K_hopeFor_62 K hQ _ _ h)
        · rw [if_neg c13] at h
          exact Sm_le (leR_s (leR_n (leR_n (leR_n leR_nil)))) (s_K_hopeFor_53 K hQ _ _ h)
    · rw [if_pos c6] at h
      exact Sm_le (leR_s (leR_n (leR_n (leR_n leR_nil)))) (s_K_hopeFor_21 K hQ _ _ h)
def F_K_hopeFor (t : Nat) (x1 : Int32) (x2 : Int32) (w : A_W) : Option (Int32 × A_W) := F_K_hopeFor_0 t x1 x2 w
theorem cn_K_hopeFor {G : Gx} {t : Nat} {x1 : Int32} {x2 : Int32} {w : A_W} {res : Int32 × A_W} (h : F_K_hopeFor t x1 x2 w = some res) : Cn G y_K_hopeFor c_K_hopeFor 4 (some .int) rm_K_hopeFor [.ref t, .int x1, .int x2] w (some (.int res.1)) res.2 :=
  Cn_of (own := 0) cy_K_hopeFor rfl rfl (Nat.le_of_ble_eq_true rfl) rfl (fun X K _ hQ => Sm_le (leR_s (leR_s (leR_s (leR_n leR_nil)))) (s_K_hopeFor_0 K hQ _ _ _ _ h))
/-! EveningCloak$Room.giveOutSet(I)V -/
abbrev c_R_giveOutSet : ByteArray := prog_3_method_24_code
def y_R_giveOutSet : MethodName := ⟨"EveningCloak$Room", "giveOutSet", "(I)V"⟩
def rm_R_giveOutSet : Room := { frames := 0, cells := 0, slots := 0, locals := 0 }
theorem cy_R_giveOutSet : Cy y_R_giveOutSet c_R_giveOutSet 3 (none) 1 := ⟨lgm 493 (by decide +kernel) rfl, lgm 69 (by decide +kernel) rfl, by decide +kernel, by decide +kernel⟩
theorem im_R_giveOutSet : Cond.instanceMethod y_R_giveOutSet ∈ lg := lgm 491 (by decide +kernel) rfl
theorem se_R_giveOutSet : Cond.selects y_R_giveOutSet.cls y_R_giveOutSet y_R_giveOutSet ∈ lg := lgm 492 (by decide +kernel) rfl
def e_R_giveOutSet : List Ent := [
  (0, .iconst 0, 1, 1, .int 0, 0, 0, 0),
  (1, .istore_n 2, 1, 2, .null, 0, 0, 0),
  (2, .iload_n 2, 1, 3, .null, 0, 0, 0),
  (3, .aload_n 0, 1, 4, .null, 0, 0, 0),
  (4, .getfield 61, 3, 7, .null, 2, 3, 104),
  (7, .if_icmp .ge 24, 3, 31, .null, 0, 0, 0),
  (10, .iload_n 1, 1, 11, .null, 0, 0, 0),
  (11, .iload_n 2, 1, 12, .null, 0, 0, 0),
  (12, .ishr, 1, 13, .null, 0, 0, 0),
  (13, .iconst 1, 1, 14, .int 1, 0, 0, 0),
  (14, .iand, 1, 15, .null, 0, 0, 0),
  (15, .ifCond .eq 10, 3, 25, .null, 0, 0, 0),
  (18, .aload_n 0, 1, 19, .null, 0, 0, 0),
  (19, .getfield 34, 3, 22, .null, 2, 11, 125),
  (22, .iload_n 2, 1, 23, .null, 0, 0, 0),
  (23, .iconst 1, 1, 24, .int 1, 0, 0, 0),
  (24, .iastore, 1, 25, .null, 0, 0, 0),
  (25, .iinc 2 1, 3, 28, .int 1, 0, 0, 0),
  (28, .goto (-26), 3, 2, .null, 0, 0, 0),
  (31, .return_, 1, 32, .null, 0, 0, 0)]
set_option maxRecDepth 100000 in
theorem ek_R_giveOutSet : e_R_giveOutSet.all (eok 2 c_R_giveOutSet) = true := by decide +kernel
def F_R_giveOutSet_25 (k2 : Nat → Int32 → Int32 → A_W → Option (A_W)) (t : Nat) (x1 : Int32) (x2 : Int32) (w : A_W) : Option (A_W) :=
  k2 t x1 (x2 + 1) w
def F_R_giveOutSet_2 : Nat → Nat → Int32 → Int32 → A_W → Option (A_W)
  | 0, _, _, _, _ => none
  | n + 1, t, x1, x2, w =>
    (gi w t 2 3).bind fun v1 =>
    if v1 ≤ x2 then
      some w
    else
      if ((x1 >>> (x2 &&& 31)) &&& 1) = 0 then
        F_R_giveOutSet_25 (F_R_giveOutSet_2 n) t x1 x2 w
      else
        (gr w t 2 11).bind fun a4 =>
        (wr w a4 x2 1).bind fun w5 =>
        F_R_giveOutSet_25 (F_R_giveOutSet_2 n) t x1 x2 w5
def F_R_giveOutSet_0 (t : Nat) (x1 : Int32) (w : A_W) : Option (A_W) :=
  F_R_giveOutSet_2 FU t x1 0 w
set_option maxHeartbeats 4000000 in
set_option maxRecDepth 100000 in
theorem s_R_giveOutSet_25 {G : Gx} {X : Cx} {res : A_W} (K : Ok G X 2 c_R_giveOutSet 3 (none) rm_R_giveOutSet) (hQ : QQ G X none res 0 0) {k2 : Nat → Int32 → Int32 → A_W → Option (A_W)} (hk2 : ∀ (t : Nat) (x1 : Int32) (x2 : Int32) (w : A_W), k2 t x1 x2 w = some res → Sm G X w 0 0 [some (.ref t), some (.int x1), some (.int x2)] [] 2) (t : Nat) (x1 : Int32) (x2 : Int32) (w : A_W) (h : F_R_giveOutSet_25 k2 t x1 x2 w = some res) : Sm G X w 0 0 [some (.ref t), some (.int x1), some (.int x2)] [] 25 := by
  unfold F_R_giveOutSet_25 at h
  refine Sm_run K ek_R_giveOutSet 17 2 rfl ?_
  exact Sm_le (leR_s (leR_s (leR_s leR_nil))) (hk2 _ _ _ _ h)
set_option maxHeartbeats 4000000 in
set_option maxRecDepth 100000 in
theorem s_R_giveOutSet_2 {G : Gx} {X : Cx} {res : A_W} (K : Ok G X 2 c_R_giveOutSet 3 (none) rm_R_giveOutSet) (hQ : QQ G X none res 0 0) : ∀ (n : Nat) (t : Nat) (x1 : Int32) (x2 : Int32) (w : A_W), F_R_giveOutSet_2 n t x1 x2 w = some res → Sm G X w 0 0 [some (.ref t), some (.int x1), some (.int x2)] [] 2 := by
  intro n
  induction n with
  | zero => intro t x1 x2 w h; cases h
  | succ n ih =>
    intro t x1 x2 w h
    rw [F_R_giveOutSet_2] at h
    refine Sm_run K ek_R_giveOutSet 2 2 rfl ?_
    obtain ⟨v1, e_v1, h⟩ := Option.bind_eq_some_iff.mp h
    refine Sm_gi K (eo ek_R_giveOutSet (i := 4) rfl) e_v1 ?_
    refine Sm_ic_ge K (eo ek_R_giveOutSet (i := 5) rfl) (fun c2 => ?_) (fun c2 => ?_)
    · rw [if_pos c2] at h
      obtain rfl := Option.some.inj h
      exact Sm_retv K hQ (eok_i (eo ek_R_giveOutSet (i := 19) rfl) rfl)
    · rw [if_neg c2] at h
      refine Sm_run K ek_R_giveOutSet 6 5 rfl ?_
      refine Sm_if_eq K (eo ek_R_giveOutSet (i := 11) rfl) (fun c3 => ?_) (fun c3 => ?_)
      · rw [if_pos c3] at h
        exact Sm_le (leR_s (leR_s (leR_s leR_nil))) (s_R_giveOutSet_25 K hQ ih _ _ _ _ h)
      · rw [if_neg c3] at h
        refine Sm_run K ek_R_giveOutSet 12 1 rfl ?_
        obtain ⟨a4, e_a4, h⟩ := Option.bind_eq_some_iff.mp h
        refine Sm_gr K (eo ek_R_giveOutSet (i := 13) rfl) e_a4 ?_
        refine Sm_run K ek_R_giveOutSet 14 2 rfl ?_
        obtain ⟨w5, e_w5, h⟩ := Option.bind_eq_some_iff.mp h
        refine Sm_wr K (eok_i (eo ek_R_giveOutSet (i := 16) rfl) rfl) e_w5 ?_
        exact Sm_le (leR_s (leR_s (leR_s leR_nil))) (s_R_giveOutSet_25 K hQ ih _ _ _ _ h)
set_option maxHeartbeats 4000000 in
set_option maxRecDepth 100000 in
theorem s_R_giveOutSet_0 {G : Gx} {X : Cx} {res : A_W} (K : Ok G X 2 c_R_giveOutSet 3 (none) rm_R_giveOutSet) (hQ : QQ G X none res 0 0) (t : Nat) (x1 : Int32) (w : A_W) (h : F_R_giveOutSet_0 t x1 w = some res) : Sm G X w 0 0 [some (.ref t), some (.int x1), none] [] 0 := by
  unfold F_R_giveOutSet_0 at h
  refine Sm_run K ek_R_giveOutSet 0 2 rfl ?_
  exact Sm_le (leR_s (leR_s (leR_s leR_nil))) (s_R_giveOutSet_2 K hQ FU _ _ _ _ h)
def F_R_giveOutSet (t : Nat) (x1 : Int32) (w : A_W) : Option (A_W) := F_R_giveOutSet_0 t x1 w
theorem cn_R_giveOutSet {G : Gx} {t : Nat} {x1 : Int32} {w : A_W} {res : A_W} (h : F_R_giveOutSet t x1 w = some res) : Cn G y_R_giveOutSet c_R_giveOutSet 3 (none) rm_R_giveOutSet [.ref t, .int x1] w none res :=
  Cn_of (own := 2) cy_R_giveOutSet rfl rfl (Nat.le_of_ble_eq_true rfl) rfl (fun X K _ hQ => Sm_le (leR_s (leR_s (leR_n leR_nil))) (s_R_giveOutSet_0 K hQ _ _ _ h))
/-! EveningCloak.nobodyMeets(II)Z -/
abbrev c_K_nobodyMeets : ByteArray := prog_1_method_59_code
def y_K_nobodyMeets : MethodName := ⟨"EveningCloak", "nobodyMeets", "(II)Z"⟩
def rm_K_nobodyMeets : Room := { frames := 5, cells := 0, slots := 0, locals := 113 }
theorem cy_K_nobodyMeets : Cy y_K_nobodyMeets c_K_nobodyMeets 5 (some .boolean) 2 := ⟨lgm 489 (by decide +kernel) rfl, lgm 68 (by decide +kernel) rfl, by decide +kernel, by decide +kernel⟩
theorem im_K_nobodyMeets : Cond.instanceMethod y_K_nobodyMeets ∈ lg := lgm 488 (by decide +kernel) rfl
theorem se_K_nobodyMeets : Cond.selects y_K_nobodyMeets.cls y_K_nobodyMeets y_K_nobodyMeets ∈ lg := lgm 5 (by decide +kernel) rfl
def e_K_nobodyMeets : List Ent := [
  (0, .aload_n 0, 1, 1, .null, 0, 0, 0),
  (1, .getfield 16, 3, 4, .null, 0, 1, 218),
  (4, .aload_n 0, 1, 5, .null, 0, 0, 0),
  (5, .getfield 12, 3, 8, .null, 0, 0, 217),
  (8, .invokevirtual 187, 3, 11, .null, 0, 0, 0),
  (11, .aload_n 0, 1, 12, .null, 0, 0, 0),
  (12, .getfield 16, 3, 15, .null, 0, 1, 218),
  (15, .iload_n 1, 1, 16, .null, 0, 0, 0),
  (16, .invokevirtual 277, 3, 19, .null, 0, 0, 0),
  (19, .aload_n 0, 1, 20, .null, 0, 0, 0),
  (20, .getfield 12, 3, 23, .null, 0, 0, 217),
  (23, .invokevirtual 120, 3, 26, .null, 0, 0, 0),
  (26, .istore_n 3, 1, 27, .null, 0, 0, 0),
  (27, .iconst 0, 1, 28, .int 0, 0, 0, 0),
  (28, .istore 4, 2, 30, .null, 0, 0, 0),
  (30, .iload 4, 2, 32, .null, 0, 0, 0),
  (32, .iload_n 2, 1, 33, .null, 0, 0, 0),
  (33, .if_icmp .ge 30, 3, 63, .null, 0, 0, 0),
  (36, .aload_n 0, 1, 37, .null, 0, 0, 0),
  (37, .getfield 16, 3, 40, .null, 0, 1, 218),
  (40, .iconst 1, 1, 41, .int 1, 0, 0, 0),
  (41, .invokevirtual 113, 3, 44, .null, 0, 0, 0),
  (44, .aload_n 0, 1, 45, .null, 0, 0, 0),
  (45, .getfield 16, 3, 48, .null, 0, 1, 218),
  (48, .invokevirtual 120, 3, 51, .null, 0, 0, 0),
  (51, .iload_n 3, 1, 52, .null, 0, 0, 0),
  (52, .if_icmp .eq 5, 3, 57, .null, 0, 0, 0),
  (55, .iconst 0, 1, 56, .int 0, 0, 0, 0),
  (56, .ireturn, 1, 57, .null, 0, 0, 0),
  (57, .iinc 4 1, 3, 60, .int 1, 0, 0, 0),
  (60, .goto (-30), 3, 30, .null, 0, 0, 0),
  (63, .iconst 1, 1, 64, .int 1, 0, 0, 0),
  (64, .ireturn, 1, 65, .null, 0, 0, 0)]
set_option maxRecDepth 100000 in
theorem ek_K_nobodyMeets : e_K_nobodyMeets.all (eok 0 c_K_nobodyMeets) = true := by decide +kernel
def F_K_nobodyMeets_30 : Nat → Nat → Int32 → Int32 → Int32 → A_W → Option (Int32 × A_W)
  | 0, _, _, _, _, _ => none
  | n + 1, t, x2, x3, x4, w =>
    if x2 ≤ x4 then
      (bz 1).bind fun b2 =>
      some (b2, w)
    else
      (gr w t 0 1).bind fun a3 =>
      (ob w a3 2).bind fun o5 =>
      (F_R_passDays a3 1 w).bind fun p4 =>
      (gr p4 t 0 1).bind fun a6 =>
      (ob p4 a6 2).bind fun o8 =>
      (F_R_metTogether a6 p4).bind fun p7 =>
      if p7.1 = x3 then
        F_K_nobodyMeets_30 n t x2 x3 (x4 + 1) p7.2
      else
        (bz 0).bind fun b10 =>
        some (b10, p7.2)
def F_K_nobodyMeets_0 (t : Nat) (x1 : Int32) (x2 : Int32) (w : A_W) : Option (Int32 × A_W) :=
  (gr w t 0 1).bind fun a1 =>
  (gr w t 0 0).bind fun a2 =>
  (ob w a1 2).bind fun o4 =>
  (F_R_become a1 a2 w).bind fun p3 =>
  (gr p3 t 0 1).bind fun a5 =>
  (ob p3 a5 2).bind fun o7 =>
  (F_R_giveOutSet a5 x1 p3).bind fun p6 =>
  (gr p6 t 0 0).bind fun a8 =>
  (ob p6 a8 2).bind fun o10 =>
  (F_R_metTogether a8 p6).bind fun p9 =>
  F_K_nobodyMeets_30 FU t x2 p9.1 0 p9.2
set_option maxHeartbeats 4000000 in
set_option maxRecDepth 100000 in
theorem s_K_nobodyMeets_30 {G : Gx} {X : Cx} {res : Int32 × A_W} (K : Ok G X 0 c_K_nobodyMeets 5 (some .boolean) rm_K_nobodyMeets) (hQ : QQ G X (some (.int res.1)) res.2 0 0) : ∀ (n : Nat) (t : Nat) (x2 : Int32) (x3 : Int32) (x4 : Int32) (w : A_W), F_K_nobodyMeets_30 n t x2 x3 x4 w = some res → Sm G X w 0 0 [some (.ref t), none, some (.int x2), some (.int x3), some (.int x4)] [] 30 := by
  intro n
  induction n with
  | zero => intro t x2 x3 x4 w h; cases h
  | succ n ih =>
    intro t x2 x3 x4 w h
    rw [F_K_nobodyMeets_30] at h
    refine Sm_run K ek_K_nobodyMeets 15 2 rfl ?_
    refine Sm_ic_ge K (eo ek_K_nobodyMeets (i := 17) rfl) (fun c1 => ?_) (fun c1 => ?_)
    · rw [if_pos c1] at h
      refine Sm_run K ek_K_nobodyMeets 31 1 rfl ?_
      obtain ⟨b2, e_b2, h⟩ := Option.bind_eq_some_iff.mp h
      obtain rfl := Option.some.inj h
      exact Sm_retz K e_b2 hQ (eok_i (eo ek_K_nobodyMeets (i := 32) rfl) rfl)
    · rw [if_neg c1] at h
      refine Sm_run K ek_K_nobodyMeets 18 1 rfl ?_
      obtain ⟨a3, e_a3, h⟩ := Option.bind_eq_some_iff.mp h
      refine Sm_gr K (eo ek_K_nobodyMeets (i := 19) rfl) e_a3 ?_
      refine Sm_run K ek_K_nobodyMeets 20 1 rfl ?_
      obtain ⟨o5, e_o5, h⟩ := Option.bind_eq_some_iff.mp h
      obtain ⟨p4, e_p4, h⟩ := Option.bind_eq_some_iff.mp h
      refine Sm_callV K (eok_i (eo ek_K_nobodyMeets (i := 21) rfl) rfl) cy_R_passDays im_R_passDays se_R_passDays (lgm 367 (by decide +kernel) rfl) ⟨Nat.le_of_ble_eq_true rfl, Nat.le_of_ble_eq_true rfl⟩ (as := [.int 1]) (b := a3) (st := []) (ob_e e_o5) (by decide) rfl rfl rfl rfl (Nat.le_of_ble_eq_true rfl) ⟨Nat.le_of_ble_eq_true rfl, Nat.le_of_ble_eq_true rfl⟩ (cn_R_passDays e_p4) ?_
      refine Sm_eq (st1 := []) (nc1 := 0) (ns1 := 0) rfl rfl rfl ?_
      refine Sm_run K ek_K_nobodyMeets 22 1 rfl ?_
      obtain ⟨a6, e_a6, h⟩ := Option.bind_eq_some_iff.mp h
      refine Sm_gr K (eo ek_K_nobodyMeets (i := 23) rfl) e_a6 ?_
      obtain ⟨o8, e_o8, h⟩ := Option.bind_eq_some_iff.mp h
      obtain ⟨p7, e_p7, h⟩ := Option.bind_eq_some_iff.mp h
      refine Sm_callV K (eok_i (eo ek_K_nobodyMeets (i := 24) rfl) rfl) cy_R_metTogether im_R_metTogether se_R_metTogether (lgm 388 (by decide +kernel) rfl) ⟨Nat.le_of_ble_eq_true rfl, Nat.le_of_ble_eq_true rfl⟩ (as := []) (b := a6) (st := []) (ob_e e_o8) (by decide) rfl rfl rfl rfl (Nat.le_of_ble_eq_true rfl) ⟨Nat.le_of_ble_eq_true rfl, Nat.le_of_ble_eq_true rfl⟩ (cn_R_metTogether e_p7) ?_
      refine Sm_eq (st1 := .int p7.1 :: []) (nc1 := 0) (ns1 := 0) rfl rfl rfl ?_
      refine Sm_run K ek_K_nobodyMeets 25 1 rfl ?_
      refine Sm_ic_eq K (eo ek_K_nobodyMeets (i := 26) rfl) (fun c9 => ?_) (fun c9 => ?_)
      · rw [if_pos c9] at h
        refine Sm_run K ek_K_nobodyMeets 29 2 rfl ?_
        exact Sm_le (leR_s (leR_n (leR_s (leR_s (leR_s leR_nil))))) (ih _ _ _ _ _ h)
      · rw [if_neg c9] at h
        refine Sm_run K ek_K_nobodyMeets 27 1 rfl ?_
        obtain ⟨b10, e_b10, h⟩ := Option.bind_eq_some_iff.mp h
        obtain rfl := Option.some.inj h
        exact Sm_retz K e_b10 hQ (eok_i (eo ek_K_nobodyMeets (i := 28) rfl) rfl)
set_option maxHeartbeats 4000000 in
set_option maxRecDepth 100000 in
theorem s_K_nobodyMeets_0 {G : Gx} {X : Cx} {res : Int32 × A_W} (K : Ok G X 0 c_K_nobodyMeets 5 (some .boolean) rm_K_nobodyMeets) (hQ : QQ G X (some (.int res.1)) res.2 0 0) (t : Nat) (x1 : Int32) (x2 : Int32) (w : A_W) (h : F_K_nobodyMeets_0 t x1 x2 w = some res) : Sm G X w 0 0 [some (.ref t), some (.int x1), some (.int x2), none, none] [] 0 := by
  unfold F_K_nobodyMeets_0 at h
  refine Sm_run K ek_K_nobodyMeets 0 1 rfl ?_
  obtain ⟨a1, e_a1, h⟩ := Option.bind_eq_some_iff.mp h
  refine Sm_gr K (eo ek_K_nobodyMeets (i := 1) rfl) e_a1 ?_
  refine Sm_run K ek_K_nobodyMeets 2 1 rfl ?_
  obtain ⟨a2, e_a2, h⟩ := Option.bind_eq_some_iff.mp h
  refine Sm_gr K (eo ek_K_nobodyMeets (i := 3) rfl) e_a2 ?_
  obtain ⟨o4, e_o4, h⟩ := Option.bind_eq_some_iff.mp h
  obtain ⟨p3, e_p3, h⟩ := Option.bind_eq_some_iff.mp h
  refine Sm_callV K (eok_i (eo ek_K_nobodyMeets (i := 4) rfl) rfl) cy_R_become im_R_become se_R_become (lgm 417 (by decide +kernel) rfl) ⟨Nat.le_of_ble_eq_true rfl, Nat.le_of_ble_eq_true rfl⟩ (as := [.ref a2]) (b := a1) (st := []) (ob_e e_o4) (by decide) rfl rfl rfl rfl (Nat.le_of_ble_eq_true rfl) ⟨Nat.le_of_ble_eq_true rfl, Nat.le_of_ble_eq_true rfl⟩ (cn_R_become e_p3) ?_
  refine Sm_eq (st1 := []) (nc1 := 0) (ns1 := 0) rfl rfl rfl ?_
  refine Sm_run K ek_K_nobodyMeets 5 1 rfl ?_
  obtain ⟨a5, e_a5, h⟩ := Option.bind_eq_some_iff.mp h
  refine Sm_gr K (eo ek_K_nobodyMeets (i := 6) rfl) e_a5 ?_
  refine Sm_run K ek_K_nobodyMeets 7 1 rfl ?_
  obtain ⟨o7, e_o7, h⟩ := Option.bind_eq_some_iff.mp h
  obtain ⟨p6, e_p6, h⟩ := Option.bind_eq_some_iff.mp h
  refine Sm_callV K (eok_i (eo ek_K_nobodyMeets (i := 8) rfl) rfl) cy_R_giveOutSet im_R_giveOutSet se_R_giveOutSet (lgm 490 (by decide +kernel) rfl) ⟨Nat.le_of_ble_eq_true rfl, Nat.le_of_ble_eq_true rfl⟩ (as := [.int x1]) (b := a5) (st := []) (ob_e e_o7) (by decide) rfl rfl rfl rfl (Nat.le_of_ble_eq_true rfl) ⟨Nat.le_of_ble_eq_true rfl, Nat.le_of_ble_eq_true rfl⟩ (cn_R_giveOutSet e_p6) ?_
  refine Sm_eq (st1 := []) (nc1 := 0) (ns1 := 0) rfl rfl rfl ?_
  refine Sm_run K ek_K_nobodyMeets 9 1 rfl ?_
  obtain ⟨a8, e_a8, h⟩ := Option.bind_eq_some_iff.mp h
  refine Sm_gr K (eo ek_K_nobodyMeets (i := 10) rfl) e_a8 ?_
  obtain ⟨o10, e_o10, h⟩ := Option.bind_eq_some_iff.mp h
  obtain ⟨p9, e_p9, h⟩ := Option.bind_eq_some_iff.mp h
  refine Sm_callV K (eok_i (eo ek_K_nobodyMeets (i := 11) rfl) rfl) cy_R_metTogether im_R_metTogether se_R_metTogether (lgm 388 (by decide +kernel) rfl) ⟨Nat.le_of_ble_eq_true rfl, Nat.le_of_ble_eq_true rfl⟩ (as := []) (b := a8) (st := []) (ob_e e_o10) (by decide) rfl rfl rfl rfl (Nat.le_of_ble_eq_true rfl) ⟨Nat.le_of_ble_eq_true rfl, Nat.le_of_ble_eq_true rfl⟩ (cn_R_metTogether e_p9) ?_
  refine Sm_eq (st1 := .int p9.1 :: []) (nc1 := 0) (ns1 := 0) rfl rfl rfl ?_
  refine Sm_run K ek_K_nobodyMeets 12 3 rfl ?_
  exact Sm_le (leR_s (leR_n (leR_s (leR_s (leR_s leR_nil))))) (s_K_nobodyMeets_30 K hQ FU _ _ _ _ _ h)
def F_K_nobodyMeets (t : Nat) (x1 : Int32) (x2 : Int32) (w : A_W) : Option (Int32 × A_W) := F_K_nobodyMeets_0 t x1 x2 w
theorem cn_K_nobodyMeets {G : Gx} {t : Nat} {x1 : Int32} {x2 : Int32} {w : A_W} {res : Int32 × A_W} (h : F_K_nobodyMeets t x1 x2 w = some res) : Cn G y_K_nobodyMeets c_K_nobodyMeets 5 (some .boolean) rm_K_nobodyMeets [.ref t, .int x1, .int x2] w (some (.int res.1)) res.2 :=
  Cn_of (own := 0) cy_K_nobodyMeets rfl rfl (Nat.le_of_ble_eq_true rfl) rfl (fun X K _ hQ => Sm_le (leR_s (leR_s (leR_s (leR_n (leR_n leR_nil))))) (s_K_nobodyMeets_0 K hQ _ _ _ _ h))
/-! EveningCloak.giveOut(I)I -/
abbrev c_K_giveOut : ByteArray := prog_1_method_24_code
def y_K_giveOut : MethodName := ⟨"EveningCloak", "giveOut", "(I)I"⟩
def rm_K_giveOut : Room := { frames := 6, cells := 0, slots := 0, locals := 137 }
theorem cy_K_giveOut : Cy y_K_giveOut c_K_giveOut 5 (some .int) 1 := ⟨lgm 485 (by decide +kernel) rfl, lgm 68 (by decide +kernel) rfl, by decide +kernel, by decide +kernel⟩
theorem im_K_giveOut : Cond.instanceMethod y_K_giveOut ∈ lg := lgm 483 (by decide +kernel) rfl
theorem se_K_giveOut : Cond.selects y_K_giveOut.cls y_K_giveOut y_K_giveOut ∈ lg := lgm 484 (by decide +kernel) rfl
def e_K_giveOut : List Ent := [
  (0, .iload_n 1, 1, 1, .null, 0, 0, 0),
  (1, .iconst 0, 1, 2, .int 0, 0, 0, 0),
  (2, .bipush 20, 2, 4, .int 20, 0, 0, 0),
  (4, .invokestatic 40, 3, 7, .null, 0, 0, 0),
  (7, .ifCond .ne 9, 3, 16, .null, 0, 0, 0),
  (10, .aload_n 0, 1, 11, .null, 0, 0, 0),
  (11, .iconst 0, 1, 12, .int 0, 0, 0, 0),
  (12, .invokevirtual 48, 3, 15, .null, 0, 0, 0),
  (15, .ireturn, 1, 16, .null, 0, 0, 0),
  (16, .iconst 1, 1, 17, .int 1, 0, 0, 0),
  (17, .aload_n 0, 1, 18, .null, 0, 0, 0),
  (18, .getfield 12, 3, 21, .null, 0, 0, 217),
  (21, .getfield 62, 3, 24, .null, 2, 3, 105),
  (24, .ishl, 1, 25, .null, 0, 0, 0),
  (25, .iconst 1, 1, 26, .int 1, 0, 0, 0),
  (26, .isub, 1, 27, .null, 0, 0, 0),
  (27, .aload_n 0, 1, 28, .null, 0, 0, 0),
  (28, .getfield 12, 3, 31, .null, 0, 0, 217),
  (31, .invokevirtual 124, 3, 34, .null, 0, 0, 0),
  (34, .iconst (-1), 1, 35, .int (-1), 0, 0, 0),
  (35, .ixor, 1, 36, .null, 0, 0, 0),
  (36, .iand, 1, 37, .null, 0, 0, 0),
  (37, .istore_n 2, 1, 38, .null, 0, 0, 0),
  (38, .aload_n 0, 1, 39, .null, 0, 0, 0),
  (39, .iload_n 2, 1, 40, .null, 0, 0, 0),
  (40, .iload_n 1, 1, 41, .null, 0, 0, 0),
  (41, .invokevirtual 155, 3, 44, .null, 0, 0, 0),
  (44, .ifCond .ne 9, 3, 53, .null, 0, 0, 0),
  (47, .aload_n 0, 1, 48, .null, 0, 0, 0),
  (48, .iconst 3, 1, 49, .int 3, 0, 0, 0),
  (49, .invokevirtual 48, 3, 52, .null, 0, 0, 0),
  (52, .ireturn, 1, 53, .null, 0, 0, 0),
  (53, .iconst 0, 1, 54, .int 0, 0, 0, 0),
  (54, .istore_n 3, 1, 55, .null, 0, 0, 0),
  (55, .iload_n 3, 1, 56, .null, 0, 0, 0),
  (56, .aload_n 0, 1, 57, .null, 0, 0, 0),
  (57, .getfield 12, 3, 60, .null, 0, 0, 217),
  (60, .getfield 62, 3, 63, .null, 2, 3, 105),
  (63, .if_icmp .gt 55, 3, 118, .null, 0, 0, 0),
  (66, .iconst 0, 1, 67, .int 0, 0, 0, 0),
  (67, .istore 4, 2, 69, .null, 0, 0, 0),
  (69, .iload 4, 2, 71, .null, 0, 0, 0),
  (71, .iload_n 2, 1, 72, .null, 0, 0, 0),
  (72, .if_icmp .gt 40, 3, 112, .null, 0, 0, 0),
  (75, .iload 4, 2, 77, .null, 0, 0, 0),
  (77, .invokestatic 159, 3, 80, .null, 0, 0, 0),
  (80, .iload_n 3, 1, 81, .null, 0, 0, 0),
  (81, .if_icmp .ne 25, 3, 106, .null, 0, 0, 0),
  (84, .iload 4, 2, 86, .null, 0, 0, 0),
  (86, .iload_n 2, 1, 87, .null, 0, 0, 0),
  (87, .iconst (-1), 1, 88, .int (-1), 0, 0, 0),
  (88, .ixor, 1, 89, .null, 0, 0, 0),
  (89, .iand, 1, 90, .null, 0, 0, 0),
  (90, .ifCond .ne 16, 3, 106, .null, 0, 0, 0),
  (93, .aload_n 0, 1, 94, .null, 0, 0, 0),
  (94, .iload 4, 2, 96, .null, 0, 0, 0),
  (96, .iload_n 1, 1, 97, .null, 0, 0, 0),
  (97, .invokevirtual 155, 3, 100, .null, 0, 0, 0),
  (100, .ifCond .eq 6, 3, 106, .null, 0, 0, 0),
  (103, .iload 4, 2, 105, .null, 0, 0, 0),
  (105, .ireturn, 1, 106, .null, 0, 0, 0),
  (106, .iinc 4 1, 3, 109, .int 1, 0, 0, 0),
  (109, .goto (-40), 3, 69, .null, 0, 0, 0),
  (112, .iinc 3 1, 3, 115, .int 1, 0, 0, 0),
  (115, .goto (-60), 3, 55, .null, 0, 0, 0),
  (118, .aload_n 0, 1, 119, .null, 0, 0, 0),
  (119, .iconst 3, 1, 120, .int 3, 0, 0, 0),
  (120, .invokevirtual 48, 3, 123, .null, 0, 0, 0),
  (123, .ireturn, 1, 124, .null, 0, 0, 0)]
set_option maxRecDepth 100000 in
theorem ek_K_giveOut : e_K_giveOut.all (eok 0 c_K_giveOut) = true := by decide +kernel
def F_K_giveOut_106 (k55 : Nat → Int32 → Int32 → Int32 → A_W → Option (Int32 × A_W)) (k69 : Nat → Int32 → Int32 → Int32 → Int32 → A_W → Option (Int32 × A_W)) (t : Nat) (x1 : Int32) (x2 : Int32) (x3 : Int32) (x4 : Int32) (w : A_W) : Option (Int32 × A_W) :=
  k69 t x1 x2 x3 (x4 + 1) w
def F_K_giveOut_69 (k55 : Nat → Int32 → Int32 → Int32 → A_W → Option (Int32 × A_W)) : Nat → Nat → Int32 → Int32 → Int32 → Int32 → A_W → Option (Int32 × A_W)
  | 0, _, _, _, _, _, _ => none
  | n + 1, t, x1, x2, x3, x4, w =>
    if x2 < x4 then
      k55 t x1 x2 (x3 + 1) w
    else
      (F_JI_bitCount x4 w).bind fun p2 =>
      if p2.1 = x3 then
        if (x4 &&& (x2 ^^^ (-1))) = 0 then
          (ob p2.2 t 0).bind fun o6 =>
          (F_K_nobodyMeets t x4 x1 p2.2).bind fun p5 =>
          if p5.1 = 0 then
            F_K_giveOut_106 k55 (F_K_giveOut_69 k55 n) t x1 x2 x3 x4 p5.2
          else
            some (x4, p5.2)
        else
          F_K_giveOut_106 k55 (F_K_giveOut_69 k55 n) t x1 x2 x3 x4 p2.2
      else
        F_K_giveOut_106 k55 (F_K_giveOut_69 k55 n) t x1 x2 x3 x4 p2.2
def F_K_giveOut_55 : Nat → Nat → Int32 → Int32 → Int32 → A_W → Option (Int32 × A_W)
  | 0, _, _, _, _, _ => none
  | n + 1, t, x1, x2, x3, w =>
    (gr w t 0 0).bind fun a1 =>
    (gi w a1 2 3).bind fun v2 =>
    if v2 < x3 then
      (ob w t 0).bind fun o5 =>
      (F_K_finding t 3 w).bind fun p4 =>
      some (p4.1, p4.2)
    else
      F_K_giveOut_69 (F_K_giveOut_55 n) FU t x1 x2 x3 0 w
def F_K_giveOut_0 (t : Nat) (x1 : Int32) (w : A_W) : Option (Int32 × A_W) :=
  (F_K_within x1 0 20 w).bind fun p1 =>
  if p1.1 = 0 then
    (ob p1.2 t 0).bind fun o14 =>
    (F_K_finding t 0 p1.2).bind fun p13 =>
    some (p13.1, p13.2)
  else
    (gr p1.2 t 0 0).bind fun a3 =>
    (gi p1.2 a3 2 3).bind fun v4 =>
    (gr p1.2 t 0 0).bind fun a5 =>
    (ob p1.2 a5 2).bind fun o7 =>
    (F_R_outSet a5 p1.2).bind fun p6 =>
    (ob p6.2 t 0).bind fun o9 =>
    (F_K_nobodyMeets t (((1 <<< (v4 &&& 31)) - 1) &&& (p6.1 ^^^ (-1))) x1 p6.2).bind fun p8 =>
    if p8.1 = 0 then
      (ob p8.2 t 0).bind fun o12 =>
      (F_K_finding t 3 p8.2).bind fun p11 =>
      some (p11.1, p11.2)
    else
      F_K_giveOut_55 FU t x1 (((1 <<< (v4 &&& 31)) - 1) &&& (p6.1 ^^^ (-1))) 0 p8.2
set_option maxHeartbeats 4000000 in
set_option maxRecDepth 100000 in
theorem s_K_giveOut_106 {G : Gx} {X : Cx} {res : Int32 × A_W} (K : Ok G X 0 c_K_giveOut 5 (some .int) rm_K_giveOut) (hQ : QQ G X (some (.int res.1)) res.2 0 0) {k55 : Nat → Int32 → Int32 → Int32 → A_W → Option (Int32 × A_W)} {k69 : Nat → Int32 → Int32 → Int32 → Int32 → A_W → Option (Int32 × A_W)} (hk55 : ∀ (t : Nat) (x1 : Int32) (x2 : Int32) (x3 : Int32) (w : A_W), k55 t x1 x2 x3 w = some res → Sm G X w 0 0 [some (.ref t), some (.int x1), some (.int x2), some (.int x3), none] [] 55) (hk69 : ∀ (t : Nat) (x1 : Int32) (x2 : Int32) (x3 : Int32) (x4 : Int32) (w : A_W), k69 t x1 x2 x3 x4 w = some res → Sm G X w 0 0 [some (.ref t), some (.int x1), some (.int x2), some (.int x3), some (.int x4)] [] 69) (t : Nat) (x1 : Int32) (x2 : Int32) (x3 : Int32) (x4 : Int32) (w : A_W) (h : F_K_giveOut_106 k55 k69 t x1 x2 x3 x4 w = some res) : Sm G X w 0 0 [some (.ref t), some (.int x1), some (.int x2), some (.int x3), some (.int x4)] [] 106 := by
  unfold F_K_giveOut_106 at h
  refine Sm_run K ek_K_giveOut 61 2 rfl ?_
  exact Sm_le (leR_s (leR_s (leR_s (leR_s (leR_s leR_nil))))) (hk69 _ _ _ _ _ _ h)
set_option maxHeartbeats 4000000 in
set_option maxRecDepth 100000 in
theorem s_K_giveOut_69 {G : Gx} {X : Cx} {res : Int32 × A_W} (K : Ok G X 0 c_K_giveOut 5 (some .int) rm_K_giveOut) (hQ : QQ G X (some (.int res.1)) res.2 0 0) {k55 : Nat → Int32 → Int32 → Int32 → A_W → Option (Int32 × A_W)} (hk55 : ∀ (t : Nat) (x1 : Int32) (x2 : Int32) (x3 : Int32) (w : A_W), k55 t x1 x2 x3 w = some res → Sm G X w 0 0 [some (.ref t), some (.int x1), some (.int x2), some (.int x3), none] [] 55) : ∀ (n : Nat) (t : Nat) (x1 : Int32) (x2 : Int32) (x3 : Int32) (x4 : Int32) (w : A_W), F_K_giveOut_69 k55 n t x1 x2 x3 x4 w = some res → Sm G X w 0 0 [some (.ref t), some (.int x1), some (.int x2), some (.int x3), some (.int x4)] [] 69 := by
  intro n
  induction n with
  | zero => intro t x1 x2 x3 x4 w h; cases h
  | succ n ih =>
    intro t x1 x2 x3 x4 w h
    rw [F_K_giveOut_69] at h
    refine Sm_run K ek_K_giveOut 41 2 rfl ?_
    refine Sm_ic_gt K (eo ek_K_giveOut (i := 43) rfl) (fun c1 => ?_) (fun c1 => ?_)
    · rw [if_pos c1] at h
      refine Sm_run K ek_K_giveOut 63 2 rfl ?_
      exact Sm_le (leR_s (leR_s (leR_s (leR_s (leR_n leR_nil))))) (hk55 _ _ _ _ _ h)
    · rw [if_neg c1] at h
      refine Sm_run K ek_K_giveOut 44 1 rfl ?_
      obtain ⟨p2, e_p2, h⟩ := Option.bind_eq_some_iff.mp h
      refine Sm_callS K (eok_i (eo ek_K_giveOut (i := 45) rfl) rfl) cy_JI_bitCount st_JI_bitCount (lgm 494 (by decide +kernel) rfl) ⟨Nat.le_of_ble_eq_true rfl, Nat.le_of_ble_eq_true rfl⟩ (as := [.int x4]) (st := []) rfl rfl rfl (Nat.le_of_ble_eq_true rfl) ⟨Nat.le_of_ble_eq_true rfl, Nat.le_of_ble_eq_true rfl⟩ (cn_JI_bitCount e_p2) ?_
      refine Sm_eq (st1 := .int p2.1 :: []) (nc1 := 0) (ns1 := 0) rfl rfl rfl ?_
      refine Sm_run K ek_K_giveOut 46 1 rfl ?_
      refine Sm_ic_ne K (eo ek_K_giveOut (i := 47) rfl) (fun c3 => ?_) (fun c3 => ?_)
      · rw [if_neg c3] at h
        exact Sm_le (leR_s (leR_s (leR_s (leR_s (leR_s leR_nil))))) (s_K_giveOut_106 K hQ hk55 ih _ _ _ _ _ _ h)
      · rw [if_pos c3] at h
        refine Sm_run K ek_K_giveOut 48 5 rfl ?_
        refine Sm_if_ne K (eo ek_K_giveOut (i := 53) rfl) (fun c4 => ?_) (fun c4 => ?_)
        · rw [if_neg c4] at h
          exact Sm_le (leR_s (leR_s (leR_s (leR_s (leR_s leR_nil))))) (s_K_giveOut_106 K hQ hk55 ih _ _ _ _ _ _ h)
        · rw [if_pos c4] at h
          refine Sm_run K ek_K_giveOut 54 3 rfl ?_
          obtain ⟨o6, e_o6, h⟩ := Option.bind_eq_some_iff.mp h
          obtain ⟨p5, e_p5, h⟩ := Option.bind_eq_some_iff.mp h
          refine Sm_callV K (eok_i (eo ek_K_giveOut (i := 57) rfl) rfl) cy_K_nobodyMeets im_K_nobodyMeets se_K_nobodyMeets (lgm 486 (by decide +kernel) rfl) ⟨Nat.le_of_ble_eq_true rfl, Nat.le_of_ble_eq_true rfl⟩ (as := [.int x4, .int x1]) (b := t) (st := []) (ob_e e_o6) (by decide) rfl rfl rfl rfl (Nat.le_of_ble_eq_true rfl) ⟨Nat.le_of_ble_eq_true rfl, Nat.le_of_ble_eq_true rfl⟩ (cn_K_nobodyMeets e_p5) ?_
          refine Sm_eq (st1 := .int p5.1 :: []) (nc1 := 0) (ns1 := 0) rfl rfl rfl ?_
          refine Sm_if_eq K (eo ek_K_giveOut (i := 58) rfl) (fun c7 => ?_) (fun c7 => ?_)
          · rw [if_pos c7] at h
            exact Sm_le (leR_s (leR_s (leR_s (leR_s (leR_s leR_nil))))) (s_K_giveOut_106 K hQ hk55 ih _ _ _ _ _ _ h)
          · rw [if_neg c7] at h
            refine Sm_run K ek_K_giveOut 59 1 rfl ?_
            obtain rfl := Option.some.inj h
            exact Sm_reti K hQ (eok_i (eo ek_K_giveOut (i := 60) rfl) rfl)
set_option maxHeartbeats 4000000 in
set_option maxRecDepth 100000 in
theorem s_K_giveOut_55 {G : Gx} {X : Cx} {res : Int32 × A_W} (K : Ok G X 0 c_K_giveOut 5 (some .int) rm_K_giveOut) (hQ : QQ G X (some (.int res.1)) res.2 0 0) : ∀ (n : Nat) (t : Nat) (x1 : Int32) (x2 : Int32) (x3 : Int32) (w : A_W), F_K_giveOut_55 n t x1 x2 x3 w = some res → Sm G X w 0 0 [some (.ref t), some (.int x1), some (.int x2), some (.int x3), none] [] 55 := by
  intro n
  induction n with
  | zero => intro t x1 x2 x3 w h; cases h
  | succ n ih =>
    intro t x1 x2 x3 w h
    rw [F_K_giveOut_55] at h
    refine Sm_run K ek_K_giveOut 34 2 rfl ?_
    obtain ⟨a1, e_a1, h⟩ := Option.bind_eq_some_iff.mp h
    refine Sm_gr K (eo ek_K_giveOut (i := 36) rfl) e_a1 ?_
    obtain ⟨v2, e_v2, h⟩ := Option.bind_eq_some_iff.mp h
    refine Sm_gi K (eo ek_K_giveOut (i := 37) rfl) e_v2 ?_
    refine Sm_ic_gt K (eo ek_K_giveOut (i := 38) rfl) (fun c3 => ?_) (fun c3 => ?_)
    · rw [if_pos c3] at h
      refine Sm_run K ek_K_giveOut 65 2 rfl ?_
      obtain ⟨o5, e_o5, h⟩ := Option.bind_eq_some_iff.mp h
      obtain ⟨p4, e_p4, h⟩ := Option.bind_eq_some_iff.mp h
      refine Sm_callV K (eok_i (eo ek_K_giveOut (i := 67) rfl) rfl) cy_K_finding im_K_finding se_K_finding (lgm 249 (by decide +kernel) rfl) ⟨Nat.le_of_ble_eq_true rfl, Nat.le_of_ble_eq_true rfl⟩ (as := [.int 3]) (b := t) (st := []) (ob_e e_o5) (by decide) rfl rfl rfl rfl (Nat.le_of_ble_eq_true rfl) ⟨Nat.le_of_ble_eq_true rfl, Nat.le_of_ble_eq_true rfl⟩ (cn_K_finding e_p4) ?_
      refine Sm_eq (st1 := .int p4.1 :: []) (nc1 := 0) (ns1 := 0) rfl rfl rfl ?_
      obtain rfl := Option.some.inj h
      exact Sm_reti K hQ (eok_i (eo ek_K_giveOut (i := 68) rfl) rfl)
    · rw [if_neg c3] at h
      refine Sm_run K ek_K_giveOut 39 2 rfl ?_
      exact Sm_le (leR_s (leR_s (leR_s (leR_s (leR_s leR_nil))))) (s_K_giveOut_69 K hQ ih FU _ _ _ _ _ _ h)
set_option maxHeartbeats 4000000 in
set_option maxRecDepth 100000 in
theorem s_K_giveOut_0 {G : Gx} {X : Cx} {res : Int32 × A_W} (K : Ok G X 0 c_K_giveOut 5 (some .int) rm_K_giveOut) (hQ : QQ G X (some (.int res.1)) res.2 0 0) (t : Nat) (x1 : Int32) (w : A_W) (h : F_K_giveOut_0 t x1 w = some res) : Sm G X w 0 0 [some (.ref t), some (.int x1), none, none, none] [] 0 := by
  unfold F_K_giveOut_0 at h
  refine Sm_run K ek_K_giveOut 0 3 rfl ?_
  obtain ⟨p1, e_p1, h⟩ := Option.bind_eq_some_iff.mp h
  refine Sm_callS K (eok_i (eo ek_K_giveOut (i := 3) rfl) rfl) cy_K_within st_K_within (lgm 243 (by decide +kernel) rfl) ⟨Nat.le_of_ble_eq_true rfl, Nat.le_of_ble_eq_true rfl⟩ (as := [.int x1, .int 0, .int 20]) (st := []) rfl rfl rfl (Nat.le_of_ble_eq_true rfl) ⟨Nat.le_of_ble_eq_true rfl, Nat.le_of_ble_eq_true rfl⟩ (cn_K_within e_p1) ?_
  refine Sm_eq (st1 := .int p1.1 :: []) (nc1 := 0) (ns1 := 0) rfl rfl rfl ?_
  refine Sm_if_ne K (eo ek_K_giveOut (i := 4) rfl) (fun c2 => ?_) (fun c2 => ?_)
  · rw [if_neg c2] at h
    refine Sm_run K ek_K_giveOut 9 2 rfl ?_
    obtain ⟨a3, e_a3, h⟩ := Option.bind_eq_some_iff.mp h
    refine Sm_gr K (eo ek_K_giveOut (i := 11) rfl) e_a3 ?_
    obtain ⟨v4, e_v4, h⟩ := Option.bind_eq_some_iff.mp h
    refine Sm_gi K (eo ek_K_giveOut (i := 12) rfl) e_v4 ?_
    refine Sm_run K ek_K_giveOut 13 4 rfl ?_
    obtain ⟨a5, e_a5, h⟩ := Option.bind_eq_some_iff.mp h
    refine Sm_gr K (eo ek_K_giveOut (i := 17) rfl) e_a5 ?_
    obtain ⟨o7, e_o7, h⟩ := Option.bind_eq_some_iff.mp h
    obtain ⟨p6, e_p6, h⟩ := Option.bind_eq_some_iff.mp h
    refine Sm_callV K (eok_i (eo ek_K_giveOut (i := 18) rfl) rfl) cy_R_outSet im_R_outSet se_R_outSet (lgm 392 (by decide +kernel) rfl) ⟨Nat.le_of_ble_eq_true rfl, Nat.le_of_ble_eq_true rfl⟩ (as := []) (b := a5) (st := [.int ((1 <<< (v4 &&& 31)) - 1)]) (ob_e e_o7) (by decide) rfl rfl rfl rfl (Nat.le_of_ble_eq_true rfl) ⟨Nat.le_of_ble_eq_true rfl, Nat.le_of_ble_eq_true rfl⟩ (cn_R_outSet e_p6) ?_
    refine Sm_eq (st1 := .int p6.1 :: [.int ((1 <<< (v4 &&& 31)) - 1)]) (nc1 := 0) (ns1 := 0) rfl rfl rfl ?_
    refine Sm_run K ek_K_giveOut 19 7 rfl ?_
    obtain ⟨o9, e_o9, h⟩ := Option.bind_eq_some_iff.mp h
    obtain ⟨p8, e_p8, h⟩ := Option.bind_eq_some_iff.mp h
    refine Sm_callV K (eok_i (eo ek_K_giveOut (i := 26) rfl) rfl) cy_K_nobodyMeets im_K_nobodyMeets se_K_nobodyMeets (lgm 486 (by decide +kernel) rfl) ⟨Nat.le_of_ble_eq_true rfl, Nat.le_of_ble_eq_true rfl⟩ (as := [.int (((1 <<< (v4 &&& 31)) - 1) &&& (p6.1 ^^^ (-1))), .int x1]) (b := t) (st := []) (ob_e e_o9) (by decide) rfl rfl rfl rfl (Nat.le_of_ble_eq_true rfl) ⟨Nat.le_of_ble_eq_true rfl, Nat.le_of_ble_eq_true rfl⟩ (cn_K_nobodyMeets e_p8) ?_
    refine Sm_eq (st1 := .int p8.1 :: []) (nc1 := 0) (ns1 := 0) rfl rfl rfl ?_
    refine Sm_if_ne K (eo ek_K_giveOut (i := 27) rfl) (fun c10 => ?_) (fun c10 => ?_)
    · rw [if_neg c10] at h
      refine Sm_run K ek_K_giveOut 32 2 rfl ?_
      exact Sm_le (leR_s (leR_s (leR_s (leR_s (leR_n leR_nil))))) (s_K_giveOut_55 K hQ FU _ _ _ _ _ h)
    · rw [if_pos c10] at h
      refine Sm_run K ek_K_giveOut 28 2 rfl ?_
      obtain ⟨o12, e_o12, h⟩ := Option.bind_eq_some_iff.mp h
      obtain ⟨p11, e_p11, h⟩ := Option.bind_eq_some_iff.mp h
      refine Sm_callV K (eok_i (eo ek_K_giveOut (i := 30) rfl) rfl) cy_K_finding im_K_finding se_K_finding (lgm 249 (by decide +kernel) rfl) ⟨Nat.le_of_ble_eq_true rfl, Nat.le_of_ble_eq_true rfl⟩ (as := [.int 3]) (b := t) (st := []) (ob_e e_o12) (by decide) rfl rfl rfl rfl (Nat.le_of_ble_eq_true rfl) ⟨Nat.le_of_ble_eq_true rfl, Nat.le_of_ble_eq_true rfl⟩ (cn_K_finding e_p11) ?_
      refine Sm_eq (st1 := .int p11.1 :: []) (nc1 := 0) (ns1 := 0) rfl rfl rfl ?_
      obtain rfl := Option.some.inj h
      exact Sm_reti K hQ (eok_i (eo ek_K_giveOut (i := 31) rfl) rfl)
  · rw [if_pos c2] at h
    refine Sm_run K ek_K_giveOut 5 2 rfl ?_
    obtain ⟨o14, e_o14, h⟩ := Option.bind_eq_some_iff.mp h
    obtain ⟨p13, e_p13, h⟩ := Option.bind_eq_some_iff.mp h
    refine Sm_callV K (eok_i (eo ek_K_giveOut (i := 7) rfl) rfl) cy_K_finding im_K_finding se_K_finding (lgm 249 (by decide +kernel) rfl) ⟨Nat.le_of_ble_eq_true rfl, Nat.le_of_ble_eq_true rfl⟩ (as := [.int 0]) (b := t) (st := []) (ob_e e_o14) (by decide) rfl rfl rfl rfl (Nat.le_of_ble_eq_true rfl) ⟨Nat.le_of_ble_eq_true rfl, Nat.le_of_ble_eq_true rfl⟩ (cn_K_finding e_p13) ?_
    refine Sm_eq (st1 := .int p13.1 :: []) (nc1 := 0) (ns1 := 0) rfl rfl rfl ?_
    obtain rfl := Option.some.inj h
    exact Sm_reti K hQ (eok_i (eo ek_K_giveOut (i := 8) rfl) rfl)
def F_K_giveOut (t : Nat) (x1 : Int32) (w : A_W) : Option (Int32 × A_W) := F_K_giveOut_0 t x1 w
theorem cn_K_giveOut {G : Gx} {t : Nat} {x1 : Int32} {w : A_W} {res : Int32 × A_W} (h : F_K_giveOut t x1 w = some res) : Cn G y_K_giveOut c_K_giveOut 5 (some .int) rm_K_giveOut [.ref t, .int x1] w (some (.int res.1)) res.2 :=
  Cn_of (own := 0) cy_K_giveOut rfl rfl (Nat.le_of_ble_eq_true rfl) rfl (fun X K _ hQ => Sm_le (leR_s (leR_s (leR_n (leR_n (leR_n leR_nil))))) (s_K_giveOut_0 K hQ _ _ _ h))
/-! EveningCloak.isSheet(I)Z -/
abbrev c_K_isSheet : ByteArray := prog_1_method_51_code
def y_K_isSheet : MethodName := ⟨"EveningCloak", "isSheet", "(I)Z"⟩
def rm_K_isSheet : Room := { frames := 1, cells := 0, slots := 0, locals := 22 }
theorem cy_K_isSheet : Cy y_K_isSheet c_K_isSheet 1 (some .boolean) 1 := ⟨lgm 510 (by decide +kernel) rfl, lgm 68 (by decide +kernel) rfl, by decide +kernel, by decide +kernel⟩
theorem st_K_isSheet : Cond.static y_K_isSheet ∈ lg := lgm 509 (by decide +kernel) rfl
def e_K_isSheet : List Ent := [
  (0, .iload_n 0, 1, 1, .null, 0, 0, 0),
  (1, .iconst 0, 1, 2, .int 0, 0, 0, 0),
  (2, .iconst 3, 1, 3, .int 3, 0, 0, 0),
  (3, .invokestatic 40, 3, 6, .null, 0, 0, 0),
  (6, .ireturn, 1, 7, .null, 0, 0, 0)]
set_option maxRecDepth 100000 in
theorem ek_K_isSheet : e_K_isSheet.all (eok 0 c_K_isSheet) = true := by decide +kernel
def F_K_isSheet_0 (x0 : Int32) (w : A_W) : Option (Int32 × A_W) :=
  (F_K_within x0 0 3 w).bind fun p1 =>
  (bz p1.1).bind fun b2 =>
  some (b2, p1.2)
set_option maxHeartbeats 4000000 in
set_option maxRecDepth 100000 in
theorem s_K_isSheet_0 {G : Gx} {X : Cx} {res : Int32 × A_W} (K : Ok G X 0 c_K_isSheet 1 (some .boolean) rm_K_isSheet) (hQ : QQ G X (some (.int res.1)) res.2 0 0) (x0 : Int32) (w : A_W) (h : F_K_isSheet_0 x0 w = some res) : Sm G X w 0 0 [some (.int x0)] [] 0 := by
  unfold F_K_isSheet_0 at h
  refine Sm_run K ek_K_isSheet 0 3 rfl ?_
  obtain ⟨p1, e_p1, h⟩ := Option.bind_eq_some_iff.mp h
  refine Sm_callS K (eok_i (eo ek_K_isSheet (i := 3) rfl) rfl) cy_K_within st_K_within (lgm 243 (by decide +kernel) rfl) ⟨Nat.le_of_ble_eq_true rfl, Nat.le_of_ble_eq_true rfl⟩ (as := [.int x0, .int 0, .int 3]) (st := []) rfl rfl rfl (Nat.le_of_ble_eq_true rfl) ⟨Nat.le_of_ble_eq_true rfl, Nat.le_of_ble_eq_true rfl⟩ (cn_K_within e_p1) ?_
  refine Sm_eq (st1 := .int p1.1 :: []) (nc1 := 0) (ns1 := 0) rfl rfl rfl ?_
  obtain ⟨b2, e_b2, h⟩ := Option.bind_eq_some_iff.mp h
  obtain rfl := Option.some.inj h
  exact Sm_retz K e_b2 hQ (eok_i (eo ek_K_isSheet (i := 4) rfl) rfl)
def F_K_isSheet (x0 : Int32) (w : A_W) : Option (Int32 × A_W) := F_K_isSheet_0 x0 w
theorem cn_K_isSheet {G : Gx} {x0 : Int32} {w : A_W} {res : Int32 × A_W} (h : F_K_isSheet x0 w = some res) : Cn G y_K_isSheet c_K_isSheet 1 (some .boolean) rm_K_isSheet [.int x0] w (some (.int res.1)) res.2 :=
  Cn_of (own := 0) cy_K_isSheet rfl rfl (Nat.le_of_ble_eq_true rfl) rfl (fun X K _ hQ => Sm_le (leR_s leR_nil) (s_K_isSheet_0 K hQ _ _ h))
/-! EveningCloak$Sheet.isMissing()Z -/
abbrev c_S_isMissing : ByteArray := prog_4_method_2_code
def y_S_isMissing : MethodName := ⟨"EveningCloak$Sheet", "isMissing", "()Z"⟩
def rm_S_isMissing : Room := { frames := 0, cells := 0, slots := 0, locals := 0 }
theorem cy_S_isMissing : Cy y_S_isMissing c_S_isMissing 1 (some .boolean) 0 := ⟨lgm 514 (by decide +kernel) rfl, lgm 72 (by decide +kernel) rfl, by decide +kernel, by decide +kernel⟩
theorem im_S_isMissing : Cond.instanceMethod y_S_isMissing ∈ lg := lgm 512 (by decide +kernel) rfl
theorem se_S_isMissing : Cond.selects y_S_isMissing.cls y_S_isMissing y_S_isMissing ∈ lg := lgm 513 (by decide +kernel) rfl
def e_S_isMissing : List Ent := [
  (0, .aload_n 0, 1, 1, .null, 0, 0, 0),
  (1, .getfield 15, 3, 4, .null, 3, 0, 204),
  (4, .ifCond .ne 7, 3, 11, .null, 0, 0, 0),
  (7, .iconst 1, 1, 8, .int 1, 0, 0, 0),
  (8, .goto 4, 3, 12, .null, 0, 0, 0),
  (11, .iconst 0, 1, 12, .int 0, 0, 0, 0),
  (12, .ireturn, 1, 13, .null, 0, 0, 0)]
set_option maxRecDepth 100000 in
theorem ek_S_isMissing : e_S_isMissing.all (eok 3 c_S_isMissing) = true := by decide +kernel
def F_S_isMissing_12 (y0 : Int32) (w : A_W) : Option (Int32 × A_W) :=
  (bz y0).bind fun b1 =>
  some (b1, w)
def F_S_isMissing_0 (t : Nat) (w : A_W) : Option (Int32 × A_W) :=
  (gi w t 3 0).bind fun v1 =>
  if v1 = 0 then
    F_S_isMissing_12 1 w
  else
    F_S_isMissing_12 0 w
set_option maxHeartbeats 4000000 in
set_option maxRecDepth 100000 in
theorem s_S_isMissing_12 {G : Gx} {X : Cx} {res : Int32 × A_W} (K : Ok G X 3 c_S_isMissing 1 (some .boolean) rm_S_isMissing) (hQ : QQ G X (some (.int res.1)) res.2 0 0) (y0 : Int32) (w : A_W) (h : F_S_isMissing_12 y0 w = some res) : Sm G X w 0 0 [none] [.int y0] 12 := by
  unfold F_S_isMissing_12 at h
  obtain ⟨b1, e_b1, h⟩ := Option.bind_eq_some_iff.mp h
  obtain rfl := Option.some.inj h
  exact Sm_retz K e_b1 hQ (eok_i (eo ek_S_isMissing (i := 6) rfl) rfl)
set_option maxHeartbeats 4000000 in
set_option maxRecDepth 100000 in
theorem s_S_isMissing_0 {G : Gx} {X : Cx} {res : Int32 × A_W} (K : Ok G X 3 c_S_isMissing 1 (some .boolean) rm_S_isMissing) (hQ : QQ G X (some (.int res.1)) res.2 0 0) (t : Nat) (w : A_W) (h : F_S_isMissing_0 t w = some res) : Sm G X w 0 0 [some (.ref t)] [] 0 := by
  unfold F_S_isMissing_0 at h
  refine Sm_run K ek_S_isMissing 0 1 rfl ?_
  obtain ⟨v1, e_v1, h⟩ := Option.bind_eq_some_iff.mp h
  refine Sm_gi K (eo ek_S_isMissing (i := 1) rfl) e_v1 ?_
  refine Sm_if_ne K (eo ek_S_isMissing (i := 2) rfl) (fun c2 => ?_) (fun c2 => ?_)
  · rw [if_neg c2] at h
    refine Sm_run K ek_S_isMissing 5 1 rfl ?_
    exact Sm_le (leR_n leR_nil) (s_S_isMissing_12 K hQ _ _ h)
  · rw [if_pos c2] at h
    refine Sm_run K ek_S_isMissing 3 2 rfl ?_
    exact Sm_le (leR_n leR_nil) (s_S_isMissing_12 K hQ _ _ h)
def F_S_isMissing (t : Nat) (w : A_W) : Option (Int32 × A_W) := F_S_isMissing_0 t w
theorem cn_S_isMissing {G : Gx} {t : Nat} {w : A_W} {res : Int32 × A_W} (h : F_S_isMissing t w = some res) : Cn G y_S_isMissing c_S_isMissing 1 (some .boolean) rm_S_isMissing [.ref t] w (some (.int res.1)) res.2 :=
  Cn_of (own := 3) cy_S_isMissing rfl rfl (Nat.le_of_ble_eq_true rfl) rfl (fun X K _ hQ => Sm_le (leR_s leR_nil) (s_S_isMissing_0 K hQ _ _ h))
/-! EveningCloak.refusedAsTold(II)I -/
abbrev c_K_refusedAsTold : ByteArray := prog_1_method_60_code
def y_K_refusedAsTold : MethodName := ⟨"EveningCloak", "refusedAsTold", "(II)I"⟩
def rm_K_refusedAsTold : Room := { frames := 2, cells := 0, slots := 0, locals := 43 }
theorem cy_K_refusedAsTold : Cy y_K_refusedAsTold c_K_refusedAsTold 3 (some .int) 2 := ⟨lgm 507 (by decide +kernel) rfl, lgm 68 (by decide +kernel) rfl, by decide +kernel, by decide +kernel⟩
theorem im_K_refusedAsTold : Cond.instanceMethod y_K_refusedAsTold ∈ lg := lgm 506 (by decide +kernel) rfl
theorem se_K_refusedAsTold : Cond.selects y_K_refusedAsTold.cls y_K_refusedAsTold y_K_refusedAsTold ∈ lg := lgm 6 (by decide +kernel) rfl
def e_K_refusedAsTold : List Ent := [
  (0, .iload_n 1, 1, 1, .null, 0, 0, 0),
  (1, .invokestatic 207, 3, 4, .null, 0, 0, 0),
  (4, .ifCond .ne 5, 3, 9, .null, 0, 0, 0),
  (7, .iconst 0, 1, 8, .int 0, 0, 0, 0),
  (8, .ireturn, 1, 9, .null, 0, 0, 0),
  (9, .aload_n 0, 1, 10, .null, 0, 0, 0),
  (10, .getfield 31, 3, 13, .null, 0, 5, 222),
  (13, .iload_n 1, 1, 14, .null, 0, 0, 0),
  (14, .aaload, 1, 15, .null, 0, 0, 0),
  (15, .invokevirtual 217, 3, 18, .null, 0, 0, 0),
  (18, .ifCond .eq 5, 3, 23, .null, 0, 0, 0),
  (21, .iconst 5, 1, 22, .int 5, 0, 0, 0),
  (22, .ireturn, 1, 23, .null, 0, 0, 0),
  (23, .aload_n 0, 1, 24, .null, 0, 0, 0),
  (24, .getfield 12, 3, 27, .null, 0, 0, 217),
  (27, .iload_n 2, 1, 28, .null, 0, 0, 0),
  (28, .invokevirtual 75, 3, 31, .null, 0, 0, 0),
  (31, .ifCond .eq 7, 3, 38, .null, 0, 0, 0),
  (34, .iconst (-1), 1, 35, .int (-1), 0, 0, 0),
  (35, .goto 4, 3, 39, .null, 0, 0, 0),
  (38, .iconst 0, 1, 39, .int 0, 0, 0, 0),
  (39, .ireturn, 1, 40, .null, 0, 0, 0)]
set_option maxRecDepth 100000 in
theorem ek_K_refusedAsTold : e_K_refusedAsTold.all (eok 0 c_K_refusedAsTold) = true := by decide +kernel
def F_K_refusedAsTold_39 (y0 : Int32) (w : A_W) : Option (Int32 × A_W) :=
  some (y0, w)
def F_K_refusedAsTold_0 (t : Nat) (x1 : Int32) (x2 : Int32) (w : A_W) : Option (Int32 × A_W) :=
  (F_K_isSheet x1 w).bind fun p1 =>
  if p1.1 = 0 then
    some (0, p1.2)
  else
    (gr p1.2 t 0 5).bind fun a3 =>
    (ra p1.2 a3 x1).bind fun a4 =>
    (ob p1.2 a4 3).bind fun o6 =>
    (F_S_isMissing a4 p1.2).bind fun p5 =>
    if p5.1 = 0 then
      (gr p5.2 t 0 0).bind fun a8 =>
      (ob p5.2 a8 2).bind fun o10 =>
      (F_R_hasDeposit a8 x2 p5.2).bind fun p9 =>
      if p9.1 = 0 then
        F_K_refusedAsTold_39 0 p9.2
      else
        F_K_refusedAsTold_39 (-1) p9.2
    else
      some (5, p5.2)
set_option maxHeartbeats 4000000 in
set_option maxRecDepth 100000 in
theorem s_K_refusedAsTold_39 {G : Gx} {X : Cx} {res : Int32 × A_W} (K : Ok G X 0 c_K_refusedAsTold 3 (some .int) rm_K_refusedAsTold) (hQ : QQ G X (some (.int res.1)) res.2 0 0) (y0 : Int32) (w : A_W) (h : F_K_refusedAsTold_39 y0 w = some res) : Sm G X w 0 0 [none, none, none] [.int y0] 39 := by
  unfold F_K_refusedAsTold_39 at h
  obtain rfl := Option.some.inj h
  exact Sm_reti K hQ (eok_i (eo ek_K_refusedAsTold (i := 21) rfl) rfl)
set_option maxHeartbeats 4000000 in
set_option maxRecDepth 100000 in
theorem s_K_refusedAsTold_0 {G : Gx} {X : Cx} {res : Int32 × A_W} (K : Ok G X 0 c_K_refusedAsTold 3 (some .int) rm_K_refusedAsTold) (hQ : QQ G X (some (.int res.1)) res.2 0 0) (t : Nat) (x1 : Int32) (x2 : Int32) (w : A_W) (h : F_K_refusedAsTold_0 t x1 x2 w = some res) : Sm G X w 0 0 [some (.ref t), some (.int x1), some (.int x2)] [] 0 := by
  unfold F_K_refusedAsTold_0 at h
  refine Sm_run K ek_K_refusedAsTold 0 1 rfl ?_
  obtain ⟨p1, e_p1, h⟩ := Option.bind_eq_some_iff.mp h
  refine Sm_callS K (eok_i (eo ek_K_refusedAsTold (i := 1) rfl) rfl) cy_K_isSheet st_K_isSheet (lgm 508 (by decide +kernel) rfl) ⟨Nat.le_of_ble_eq_true rfl, Nat.le_of_ble_eq_true rfl⟩ (as := [.int x1]) (st := []) rfl rfl rfl (Nat.le_of_ble_eq_true rfl) ⟨Nat.le_of_ble_eq_true rfl, Nat.le_of_ble_eq_true rfl⟩ (cn_K_isSheet e_p1) ?_
  refine Sm_eq (st1 := .int p1.1 :: []) (nc1 := 0) (ns1 := 0) rfl rfl rfl ?_
  refine Sm_if_ne K (eo ek_K_refusedAsTold (i := 2) rfl) (fun c2 => ?_) (fun c2 => ?_)
  · rw [if_neg c2] at h
    refine Sm_run K ek_K_refusedAsTold 5 1 rfl ?_
    obtain ⟨a3, e_a3, h⟩ := Option.bind_eq_some_iff.mp h
    refine Sm_gr K (eo ek_K_refusedAsTold (i := 6) rfl) e_a3 ?_
    refine Sm_run K ek_K_refusedAsTold 7 1 rfl ?_
    obtain ⟨a4, e_a4, h⟩ := Option.bind_eq_some_iff.mp h
    refine Sm_ra K (eok_i (eo ek_K_refusedAsTold (i := 8) rfl) rfl) e_a4 ?_
    obtain ⟨o6, e_o6, h⟩ := Option.bind_eq_some_iff.mp h
    obtain ⟨p5, e_p5, h⟩ := Option.bind_eq_some_iff.mp h
    refine Sm_callV K (eok_i (eo ek_K_refusedAsTold (i := 9) rfl) rfl) cy_S_isMissing im_S_isMissing se_S_isMissing (lgm 511 (by decide +kernel) rfl) ⟨Nat.le_of_ble_eq_true rfl, Nat.le_of_ble_eq_true rfl⟩ (as := []) (b := a4) (st := []) (ob_e e_o6) (by decide) rfl rfl rfl rfl (Nat.le_of_ble_eq_true rfl) ⟨Nat.le_of_ble_eq_true rfl, Nat.le_of_ble_eq_true rfl⟩ (cn_S_isMissing e_p5) ?_
    refine Sm_eq (st1 := .int p5.1 :: []) (nc1 := 0) (ns1 := 0) rfl rfl rfl ?_
    refine Sm_if_eq K (eo ek_K_refusedAsTold (i := 10) rfl) (fun c7 => ?_) (fun c7 => ?_)
    · rw [if_pos c7] at h
      refine Sm_run K ek_K_refusedAsTold 13 1 rfl ?_
      obtain ⟨a8, e_a8, h⟩ := Option.bind_eq_some_iff.mp h
      refine Sm_gr K (eo ek_K_refusedAsTold (i := 14) rfl) e_a8 ?_
      refine Sm_run K ek_K_refusedAsTold 15 1 rfl ?_
      obtain ⟨o10, e_o10, h⟩ := Option.bind_eq_some_iff.mp h
      obtain ⟨p9, e_p9, h⟩ := Option.bind_eq_some_iff.mp h
      refine Sm_callV K (eok_i (eo ek_K_refusedAsTold (i := 16) rfl) rfl) cy_R_hasDeposit im_R_hasDeposit se_R_hasDeposit (lgm 284 (by decide +kernel) rfl) ⟨Nat.le_of_ble_eq_true rfl, Nat.le_of_ble_eq_true rfl⟩ (as := [.int x2]) (b := a8) (st := []) (ob_e e_o10) (by decide) rfl rfl rfl rfl (Nat.le_of_ble_eq_true rfl) ⟨Nat.le_of_ble_eq_true rfl, Nat.le_of_ble_eq_true rfl⟩ (cn_R_hasDeposit e_p9) ?_
      refine Sm_eq (st1 := .int p9.1 :: []) (nc1 := 0) (ns1 := 0) rfl rfl rfl ?_
      refine Sm_if_eq K (eo ek_K_refusedAsTold (i := 17) rfl) (fun c11 => ?_) (fun c11 => ?_)
      · rw [if_pos c11] at h
        refine Sm_run K ek_K_refusedAsTold 20 1 rfl ?_
        exact Sm_le (leR_n (leR_n (leR_n leR_nil))) (s_K_refusedAsTold_39 K hQ _ _ h)
      · rw [if_neg c11] at h
        refine Sm_run K ek_K_refusedAsTold 18 2 rfl ?_
        exact Sm_le (leR_n (leR_n (leR_n leR_nil))) (s_K_refusedAsTold_39 K hQ _ _ h)
    · rw [if_neg c7] at h
      refine Sm_run K ek_K_refusedAsTold 11 1 rfl ?_
      obtain rfl := Option.some.inj h
      exact Sm_reti K hQ (eok_i (eo ek_K_refusedAsTold (i := 12) rfl) rfl)
  · rw [if_pos c2] at h
    refine Sm_run K ek_K_refusedAsTold 3 1 rfl ?_
    obtain rfl := Option.some.inj h
    exact Sm_reti K hQ (eok_i (eo ek_K_refusedAsTold (i := 4) rfl) rfl)
def F_K_refusedAsTold (t : Nat) (x1 : Int32) (x2 : Int32) (w : A_W) : Option (Int32 × A_W) := F_K_refusedAsTold_0 t x1 x2 w
theorem cn_K_refusedAsTold {G : Gx} {t : Nat} {x1 : Int32} {x2 : Int32} {w : A_W} {res : Int32 × A_W} (h : F_K_refusedAsTold t x1 x2 w = some res) : Cn G y_K_refusedAsTold c_K_refusedAsTold 3 (some .int) rm_K_refusedAsTold [.ref t, .int x1, .int x2] w (some (.int res.1)) res.2 :=
  Cn_of (own := 0) cy_K_refusedAsTold rfl rfl (Nat.le_of_ble_eq_true rfl) rfl (fun X K _ hQ => Sm_le (leR_s (leR_s (leR_s leR_nil))) (s_K_refusedAsTold_0 K hQ _ _ _ _ h))
/-! EveningCloak.trialIsAsTold(LEveningCloak$Sheet;)Z -/
abbrev c_K_trialIsAsTold : ByteArray := prog_1_method_62_code
def y_K_trialIsAsTold : MethodName := ⟨"EveningCloak", "trialIsAsTold", "(LEveningCloak$Sheet;)Z"⟩
def rm_K_trialIsAsTold : Room := { frames := 5, cells := 0, slots := 0, locals := 113 }
theorem cy_K_trialIsAsTold : Cy y_K_trialIsAsTold c_K_trialIsAsTold 5 (some .boolean) 1 := ⟨lgm 522 (by decide +kernel) rfl, lgm 68 (by decide +kernel) rfl, by decide +kernel, by decide +kernel⟩
theorem im_K_trialIsAsTold : Cond.instanceMethod y_K_trialIsAsTold ∈ lg := lgm 521 (by decide +kernel) rfl
theorem se_K_trialIsAsTold : Cond.selects y_K_trialIsAsTold.cls y_K_trialIsAsTold y_K_trialIsAsTold ∈ lg := lgm 8 (by decide +kernel) rfl
def e_K_trialIsAsTold : List Ent := [
  (0, .aload_n 1, 1, 1, .null, 0, 0, 0),
  (1, .getfield 214, 3, 4, .null, 3, 1, 207),
  (4, .bipush 8, 2, 6, .int 8, 0, 0, 0),
  (6, .invokestatic 239, 3, 9, .null, 0, 0, 0),
  (9, .istore_n 2, 1, 10, .null, 0, 0, 0),
  (10, .iconst 0, 1, 11, .int 0, 0, 0, 0),
  (11, .istore_n 3, 1, 12, .null, 0, 0, 0),
  (12, .iload_n 3, 1, 13, .null, 0, 0, 0),
  (13, .iload_n 2, 1, 14, .null, 0, 0, 0),
  (14, .if_icmp .ge 46, 3, 60, .null, 0, 0, 0),
  (17, .aload_n 1, 1, 18, .null, 0, 0, 0),
  (18, .getfield 230, 3, 21, .null, 3, 2, 209),
  (21, .iload_n 3, 1, 22, .null, 0, 0, 0),
  (22, .iaload, 1, 23, .null, 0, 0, 0),
  (23, .istore 4, 2, 25, .null, 0, 0, 0),
  (25, .iload 4, 2, 27, .null, 0, 0, 0),
  (27, .iconst (-1), 1, 28, .int (-1), 0, 0, 0),
  (28, .if_icmp .eq 18, 3, 46, .null, 0, 0, 0),
  (31, .iload 4, 2, 33, .null, 0, 0, 0),
  (33, .aload_n 0, 1, 34, .null, 0, 0, 0),
  (34, .getfield 16, 3, 37, .null, 0, 1, 218),
  (37, .iconst 0, 1, 38, .int 0, 0, 0, 0),
  (38, .invokevirtual 100, 3, 41, .null, 0, 0, 0),
  (41, .if_icmp .eq 5, 3, 46, .null, 0, 0, 0),
  (44, .iconst 0, 1, 45, .int 0, 0, 0, 0),
  (45, .ireturn, 1, 46, .null, 0, 0, 0),
  (46, .aload_n 0, 1, 47, .null, 0, 0, 0),
  (47, .getfield 16, 3, 50, .null, 0, 1, 218),
  (50, .iconst 1, 1, 51, .int 1, 0, 0, 0),
  (51, .invokevirtual 113, 3, 54, .null, 0, 0, 0),
  (54, .iinc 3 1, 3, 57, .int 1, 0, 0, 0),
  (57, .goto (-45), 3, 12, .null, 0, 0, 0),
  (60, .iconst 1, 1, 61, .int 1, 0, 0, 0),
  (61, .ireturn, 1, 62, .null, 0, 0, 0)]
set_option maxRecDepth 100000 in
theorem ek_K_trialIsAsTold : e_K_trialIsAsTold.all (eok 0 c_K_trialIsAsTold) = true := by decide +kernel
def F_K_trialIsAsTold_46 (k12 : Nat → Nat → Int32 → Int32 → A_W → Option (Int32 × A_W)) (t : Nat) (x1 : Nat) (x2 : Int32) (x3 : Int32) (w : A_W) : Option (Int32 × A_W) :=
  (gr w t 0 1).bind fun a1 =>
  (ob w a1 2).bind fun o3 =>
  (F_R_passDays a1 1 w).bind fun p2 =>
  k12 t x1 x2 (x3 + 1) p2
def F_K_trialIsAsTold_12 : Nat → Nat → Nat → Int32 → Int32 → A_W → Option (Int32 × A_W)
  | 0, _, _, _, _, _ => none
  | n + 1, t, x1, x2, x3, w =>
    if x2 ≤ x3 then
      (bz 1).bind fun b2 =>
      some (b2, w)
    else
      (gr w x1 3 2).bind fun a3 =>
      (rd w a3 x3).bind fun v4 =>
      if v4 = (-1) then
        F_K_trialIsAsTold_46 (F_K_trialIsAsTold_12 n) t x1 x2 x3 w
      else
        (gr w t 0 1).bind fun a6 =>
        (ob w a6 2).bind fun o8 =>
        (F_R_lightAt a6 0 w).bind fun p7 =>
        if v4 = p7.1 then
          F_K_trialIsAsTold_46 (F_K_trialIsAsTold_12 n) t x1 x2 x3 p7.2
        else
          (bz 0).bind fun b10 =>
          some (b10, p7.2)
def F_K_trialIsAsTold_0 (t : Nat) (x1 : Nat) (w : A_W) : Option (Int32 × A_W) :=
  (gi w x1 3 1).bind fun v1 =>
  F_K_trialIsAsTold_12 FU t x1 (jmin v1 8) 0 w
set_option maxHeartbeats 4000000 in
set_option maxRecDepth 100000 in
theorem s_K_trialIsAsTold_46 {G : Gx} {X : Cx} {res : Int32 × A_W} (K : Ok G X 0 c_K_trialIsAsTold 5 (some .boolean) rm_K_trialIsAsTold) (hQ : QQ G X (some (.int res.1)) res.2 0 0) {k12 : Nat → Nat → Int32 → Int32 → A_W → Option (Int32 × A_W)} (hk12 : ∀ (t : Nat) (x1 : Nat) (x2 : Int32) (x3 : Int32) (w : A_W), k12 t x1 x2 x3 w = some res → Sm G X w 0 0 [some (.ref t), some (.ref x1), some (.int x2), some (.int x3), none] [] 12) (t : Nat) (x1 : Nat) (x2 : Int32) (x3 : Int32) (w : A_W) (h : F_K_trialIsAsTold_46 k12 t x1 x2 x3 w = some res) : Sm G X w 0 0 [some (.ref t), some (.ref x1), some (.int x2), some (.int x3), none] [] 46 := by
  unfold F_K_trialIsAsTold_46 at h
  refine Sm_run K ek_K_trialIsAsTold 26 1 rfl ?_
  obtain ⟨a1, e_a1, h⟩ := Option.bind_eq_some_iff.mp h
  refine Sm_gr K (eo ek_K_trialIsAsTold (i := 27) rfl) e_a1 ?_
  refine Sm_run K ek_K_trialIsAsTold 28 1 rfl ?_
  obtain ⟨o3, e_o3, h⟩ := Option.bind_eq_some_iff.mp h
  obtain ⟨p2, e_p2, h⟩ := Option.bind_eq_some_iff.mp h
  refine Sm_callV K (eok_i (eo ek_K_trialIsAsTold (i := 29) rfl) rfl) cy_R_passDays im_R_passDays se_R_passDays (lgm 367 (by decide +kernel) rfl) ⟨Nat.le_of_ble_eq_true rfl, Nat.le_of_ble_eq_true rfl⟩ (as := [.int 1]) (b := a1) (st := []) (ob_e e_o3) (by decide) rfl rfl rfl rfl (Nat.le_of_ble_eq_true rfl) ⟨Nat.le_of_ble_eq_true rfl, Nat.le_of_ble_eq_true rfl⟩ (cn_R_passDays e_p2) ?_
  refine Sm_eq (st1 := []) (nc1 := 0) (ns1 := 0) rfl rfl rfl ?_
  refine Sm_run K ek_K_trialIsAsTold 30 2 rfl ?_
  exact Sm_le (leR_s (leR_s (leR_s (leR_s (leR_n leR_nil))))) (hk12 _ _ _ _ _ h)
set_option maxHeartbeats 4000000 in
set_option maxRecDepth 100000 in
theorem s_K_trialIsAsTold_12 {G : Gx} {X : Cx} {res : Int32 × A_W} (K : Ok G X 0 c_K_trialIsAsTold 5 (some .boolean) rm_K_trialIsAsTold) (hQ : QQ G X (some (.int res.1)) res.2 0 0) : ∀ (n : Nat) (t : Nat) (x1 : Nat) (x2 : Int32) (x3 : Int32) (w : A_W), F_K_trialIsAsTold_12 n t x1 x2 x3 w = some res → Sm G X w 0 0 [some (.ref t), some (.ref x1), some (.int x2), some (.int x3), none] [] 12 := by
  intro n
  induction n with
  | zero => intro t x1 x2 x3 w h; cases h
  | succ n ih =>
    intro t x1 x2 x3 w h
    rw [F_K_trialIsAsTold_12] at h
    refine Sm_run K ek_K_trialIsAsTold 7 2 rfl ?_
    refine Sm_ic_ge K (eo ek_K_trialIsAsTold (i := 9) rfl) (fun c1 => ?_) (fun c1 => ?_)
    · rw [if_pos c1] at h
      refine Sm_run K ek_K_trialIsAsTold 32 1 rfl ?_
      obtain ⟨b2, e_b2, h⟩ := Option.bind_eq_some_iff.mp h
      obtain rfl := Option.some.inj h
      exact Sm_retz K e_b2 hQ (eok_i (eo ek_K_trialIsAsTold (i := 33) rfl) rfl)
    · rw [if_neg c1] at h
      refine Sm_run K ek_K_trialIsAsTold 10 1 rfl ?_
      obtain ⟨a3, e_a3, h⟩ := Option.bind_eq_some_iff.mp h
      refine Sm_gr K (eo ek_K_trialIsAsTold (i := 11) rfl) e_a3 ?_
      refine Sm_run K ek_K_trialIsAsTold 12 1 rfl ?_
      obtain ⟨v4, e_v4, h⟩ := Option.bind_eq_some_iff.mp h
      refine Sm_rd K (eok_i (eo ek_K_trialIsAsTold (i := 13) rfl) rfl) e_v4 ?_
      refine Sm_run K ek_K_trialIsAsTold 14 3 rfl ?_
      refine Sm_ic_eq K (eo ek_K_trialIsAsTold (i := 17) rfl) (fun c5 => ?_) (fun c5 => ?_)
      · rw [if_pos c5] at h
        exact Sm_le (leR_s (leR_s (leR_s (leR_s (leR_n leR_nil))))) (s_K_trialIsAsTold_46 K hQ ih _ _ _ _ _ h)
      · rw [if_neg c5] at h
        refine Sm_run K ek_K_trialIsAsTold 18 2 rfl ?_
        obtain ⟨a6, e_a6, h⟩ := Option.bind_eq_some_iff.mp h
        refine Sm_gr K (eo ek_K_trialIsAsTold (i := 20) rfl) e_a6 ?_
        refine Sm_run K ek_K_trialIsAsTold 21 1 rfl ?_
        obtain ⟨o8, e_o8, h⟩ := Option.bind_eq_some_iff.mp h
        obtain ⟨p7, e_p7, h⟩ := Option.bind_eq_some_iff.mp h
        refine Sm_callV K (eok_i (eo ek_K_trialIsAsTold (i := 22) rfl) rfl) cy_R_lightAt im_R_lightAt se_R_lightAt (lgm 357 (by decide +kernel) rfl) ⟨Nat.le_of_ble_eq_true rfl, Nat.le_of_ble_eq_true rfl⟩ (as := [.int 0]) (b := a6) (st := [.int v4]) (ob_e e_o8) (by decide) rfl rfl rfl rfl (Nat.le_of_ble_eq_true rfl) ⟨Nat.le_of_ble_eq_true rfl, Nat.le_of_ble_eq_true rfl⟩ (cn_R_lightAt e_p7) ?_
        refine Sm_eq (st1 := .int p7.1 :: [.int v4]) (nc1 := 0) (ns1 := 0) rfl rfl rfl ?_
        refine Sm_ic_eq K (eo ek_K_trialIsAsTold (i := 23) rfl) (fun c9 => ?_) (fun c9 => ?_)
        · rw [if_pos c9] at h
          exact Sm_le (leR_s (leR_s (leR_s (leR_s (leR_n leR_nil))))) (s_K_trialIsAsTold_46 K hQ ih _ _ _ _ _ h)
        · rw [if_neg c9] at h
          refine Sm_run K ek_K_trialIsAsTold 24 1 rfl ?_
          obtain ⟨b10, e_b10, h⟩ := Option.bind_eq_some_iff.mp h
          obtain rfl := Option.some.inj h
          exact Sm_retz K e_b10 hQ (eok_i (eo ek_K_trialIsAsTold (i := 25) rfl) rfl)
set_option maxHeartbeats 4000000 in
set_option maxRecDepth 100000 in
theorem s_K_trialIsAsTold_0 {G : Gx} {X : Cx} {res : Int32 × A_W} (K : Ok G X 0 c_K_trialIsAsTold 5 (some .boolean) rm_K_trialIsAsTold) (hQ : QQ G X (some (.int res.1)) res.2 0 0) (t : Nat) (x1 : Nat) (w : A_W) (h : F_K_trialIsAsTold_0 t x1 w = some res) : Sm G X w 0 0 [some (.ref t), some (.ref x1), none, none, none] [] 0 := by
  unfold F_K_trialIsAsTold_0 at h
  refine Sm_run K ek_K_trialIsAsTold 0 1 rfl ?_
  obtain ⟨v1, e_v1, h⟩ := Option.bind_eq_some_iff.mp h
  refine Sm_gi K (eo ek_K_trialIsAsTold (i := 1) rfl) e_v1 ?_
  refine Sm_run K ek_K_trialIsAsTold 2 1 rfl ?_
  refine Sm_min K (eok_i (eo ek_K_trialIsAsTold (i := 3) rfl) rfl) (lgm 523 (by decide +kernel) rfl) rfl (Nat.le_of_ble_eq_true rfl) (Nat.le_of_ble_eq_true rfl) (Nat.zero_le _) (Nat.zero_le _) ?_
  refine Sm_run K ek_K_trialIsAsTold 4 3 rfl ?_
  exact Sm_le (leR_s (leR_s (leR_s (leR_s (leR_n leR_nil))))) (s_K_trialIsAsTold_12 K hQ FU _ _ _ _ _ h)
def F_K_trialIsAsTold (t : Nat) (x1 : Nat) (w : A_W) : Option (Int32 × A_W) := F_K_trialIsAsTold_0 t x1 w
theorem cn_K_trialIsAsTold {G : Gx} {t : Nat} {x1 : Nat} {w : A_W} {res : Int32 × A_W} (h : F_K_trialIsAsTold t x1 w = some res) : Cn G y_K_trialIsAsTold c_K_trialIsAsTold 5 (some .boolean) rm_K_trialIsAsTold [.ref t, .ref x1] w (some (.int res.1)) res.2 :=
  Cn_of (own := 0) cy_K_trialIsAsTold rfl rfl (Nat.le_of_ble_eq_true rfl) rfl (fun X K _ hQ => Sm_le (leR_s (leR_s (leR_n (leR_n (leR_n leR_nil))))) (s_K_trialIsAsTold_0 K hQ _ _ _ h))
