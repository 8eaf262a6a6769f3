/-! EveningCloak$Reader.readText(LEveningCloak$Room;)I -/
abbrev c_D_readText : ByteArray := prog_2_method_3_code
def y_D_readText : MethodName := ⟨"EveningCloak$Reader", "readText", "(LEveningCloak$Room;)I"⟩
def rm_D_readText : Room := { frames := 8, cells := 0, slots := 0, locals := 176 }
theorem cy_D_readText : Cy y_D_readText c_D_readText 3 (some .int) 1 := ⟨lgm 567 (by decide +kernel) rfl, lgm 71 (by decide +kernel) rfl, by decide +kernel, by decide +kernel⟩
theorem im_D_readText : Cond.instanceMethod y_D_readText ∈ lg := lgm 565 (by decide +kernel) rfl
theorem se_D_readText : Cond.selects y_D_readText.cls y_D_readText y_D_readText ∈ lg := lgm 566 (by decide +kernel) rfl
def e_D_readText : List Ent := [
  (0, .aload_n 0, 1, 1, .null, 0, 0, 0),
  (1, .iconst 0, 1, 2, .int 0, 0, 0, 0),
  (2, .putfield 19, 3, 5, .null, 1, 4, 182),
  (5, .aload_n 0, 1, 6, .null, 0, 0, 0),
  (6, .invokevirtual 22, 3, 9, .null, 0, 0, 0),
  (9, .iconst 1, 1, 10, .int 1, 0, 0, 0),
  (10, .istore_n 2, 1, 11, .null, 0, 0, 0),
  (11, .iload_n 2, 1, 12, .null, 0, 0, 0),
  (12, .bipush 120, 2, 14, .int 120, 0, 0, 0),
  (14, .if_icmp .gt 44, 3, 58, .null, 0, 0, 0),
  (17, .aload_n 0, 1, 18, .null, 0, 0, 0),
  (18, .aload_n 1, 1, 19, .null, 0, 0, 0),
  (19, .invokevirtual 25, 3, 22, .null, 0, 0, 0),
  (22, .ifCond .ne 6, 3, 28, .null, 0, 0, 0),
  (25, .goto 33, 3, 58, .null, 0, 0, 0),
  (28, .aload_n 0, 1, 29, .null, 0, 0, 0),
  (29, .getfield 29, 3, 32, .null, 1, 2, 180),
  (32, .ifCond .ne 5, 3, 37, .null, 0, 0, 0),
  (35, .iload_n 2, 1, 36, .null, 0, 0, 0),
  (36, .ireturn, 1, 37, .null, 0, 0, 0),
  (37, .aload_n 0, 1, 38, .null, 0, 0, 0),
  (38, .getfield 29, 3, 41, .null, 1, 2, 180),
  (41, .iconst 3, 1, 42, .int 3, 0, 0, 0),
  (42, .if_icmp .eq 6, 3, 48, .null, 0, 0, 0),
  (45, .goto 13, 3, 58, .null, 0, 0, 0),
  (48, .aload_n 0, 1, 49, .null, 0, 0, 0),
  (49, .invokevirtual 22, 3, 52, .null, 0, 0, 0),
  (52, .iinc 2 1, 3, 55, .int 1, 0, 0, 0),
  (55, .goto (-44), 3, 11, .null, 0, 0, 0),
  (58, .iconst (-1), 1, 59, .int (-1), 0, 0, 0),
  (59, .aload_n 0, 1, 60, .null, 0, 0, 0),
  (60, .getfield 32, 3, 63, .null, 1, 3, 181),
  (63, .isub, 1, 64, .null, 0, 0, 0),
  (64, .ireturn, 1, 65, .null, 0, 0, 0)]
set_option maxRecDepth 100000 in
theorem ek_D_readText : e_D_readText.all (eok 1 c_D_readText) = true := by decide +kernel
def F_D_readText_58 (t : Nat) (w : A_W) : Option (Int32 × A_W) :=
  (gi w t 1 3).bind fun v1 =>
  some (((-1) - v1), w)
def F_D_readText_11 : Nat → Nat → Nat → Int32 → A_W → Option (Int32 × A_W)
  | 0, _, _, _, _ => none
  | n + 1, t, x1, x2, w =>
    if 120 < x2 then
      F_D_readText_58 t w
    else
      (ob w t 1).bind fun o3 =>
      (F_D_readItem t x1 w).bind fun p2 =>
      if p2.1 = 0 then
        F_D_readText_58 t p2.2
      else
        (gi p2.2 t 1 2).bind fun v5 =>
        if v5 = 0 then
          some (x2, p2.2)
        else
          (gi p2.2 t 1 2).bind fun v7 =>
          if v7 = 3 then
            (ob p2.2 t 1).bind fun o10 =>
            (F_D_step t p2.2).bind fun p9 =>
            F_D_readText_11 n t x1 (x2 + 1) p9
          else
            F_D_readText_58 t p2.2
def F_D_readText_0 (t : Nat) (x1 : Nat) (w : A_W) : Option (Int32 × A_W) :=
  (pf w t 1 4 (.int 0)).bind fun w1 =>
  (ob w1 t 1).bind fun o3 =>
  (F_D_step t w1).bind fun p2 =>
  F_D_readText_11 FU t x1 1 p2
set_option maxHeartbeats 4000000 in
set_option maxRecDepth 100000 in
theorem s_D_readText_58 {G : Gx} {X : Cx} {res : Int32 × A_W} (K : Ok G X 1 c_D_readText 3 (some .int) rm_D_readText) (hQ : QQ G X (some (.int res.1)) res.2 0 0) (t : Nat) (w : A_W) (h : F_D_readText_58 t w = some res) : Sm G X w 0 0 [some (.ref t), none, none] [] 58 := by
  unfold F_D_readText_58 at h
  refine Sm_run K ek_D_readText 29 2 rfl ?_
  obtain ⟨v1, e_v1, h⟩ := Option.bind_eq_some_iff.mp h
  refine Sm_gi K (eo ek_D_readText (i := 31) rfl) e_v1 ?_
  refine Sm_run K ek_D_readText 32 1 rfl ?_
  obtain rfl := Option.some.inj h
  exact Sm_reti K hQ (eok_i (eo ek_D_readText (i := 33) rfl) rfl)
set_option maxHeartbeats 4000000 in
set_option maxRecDepth 100000 in
theorem s_D_readText_11 {G : Gx} {X : Cx} {res : Int32 × A_W} (K : Ok G X 1 c_D_readText 3 (some .int) rm_D_readText) (hQ : QQ G X (some (.int res.1)) res.2 0 0) : ∀ (n : Nat) (t : Nat) (x1 : Nat) (x2 : Int32) (w : A_W), F_D_readText_11 n t x1 x2 w = some res → Sm G X w 0 0 [some (.ref t), some (.ref x1), some (.int x2)] [] 11 := by
  intro n
  induction n with
  | zero => intro t x1 x2 w h; cases h
  | succ n ih =>
    intro t x1 x2 w h
    rw [F_D_readText_11] at h
    refine Sm_run K ek_D_readText 7 2 rfl ?_
    refine Sm_ic_gt K (eo ek_D_readText (i := 9) rfl) (fun c1 => ?_) (fun c1 => ?_)
    · rw [if_pos c1] at h
      exact Sm_le (leR_s (leR_n (leR_n leR_nil))) (s_D_readText_58 K hQ _ _ h)
    · rw [if_neg c1] at h
      refine Sm_run K ek_D_readText 10 2 rfl ?_
      obtain ⟨o3, e_o3, h⟩ := Option.bind_eq_some_iff.mp h
      obtain ⟨p2, e_p2, h⟩ := Option.bind_eq_some_iff.mp h
      refine Sm_callV K (eok_i (eo ek_D_readText (i := 12) rfl) rfl) cy_D_readItem im_D_readItem se_D_readItem (lgm 579 (by decide +kernel) rfl) ⟨Nat.le_of_ble_eq_true rfl, Nat.le_of_ble_eq_true rfl⟩ (as := [.ref x1]) (b := t) (st := []) (ob_e e_o3) (by decide) rfl rfl rfl rfl (Nat.le_of_ble_eq_true rfl) ⟨Nat.le_of_ble_eq_true rfl, Nat.le_of_ble_eq_true rfl⟩ (cn_D_readItem e_p2) ?_
      refine Sm_eq (st1 := .int p2.1 :: []) (nc1 := 0) (ns1 := 0) rfl rfl rfl ?_
      refine Sm_if_ne K (eo ek_D_readText (i := 13) rfl) (fun c4 => ?_) (fun c4 => ?_)
      · rw [if_neg c4] at h
        refine Sm_run K ek_D_readText 15 1 rfl ?_
        obtain ⟨v5, e_v5, h⟩ := Option.bind_eq_some_iff.mp h
        refine Sm_gi K (eo ek_D_readText (i := 16) rfl) e_v5 ?_
        refine Sm_if_ne K (eo ek_D_readText (i := 17) rfl) (fun c6 => ?_) (fun c6 => ?_)
        · rw [if_neg c6] at h
          refine Sm_run K ek_D_readText 20 1 rfl ?_
          obtain ⟨v7, e_v7, h⟩ := Option.bind_eq_some_iff.mp h
          refine Sm_gi K (eo ek_D_readText (i := 21) rfl) e_v7 ?_
          refine Sm_run K ek_D_readText 22 1 rfl ?_
          refine Sm_ic_eq K (eo ek_D_readText (i := 23) rfl) (fun c8 => ?_) (fun c8 => ?_)
          · rw [if_pos c8] at h
            refine Sm_run K ek_D_readText 25 1 rfl ?_
            obtain ⟨o10, e_o10, h⟩ := Option.bind_eq_some_iff.mp h
            obtain ⟨p9, e_p9, h⟩ := Option.bind_eq_some_iff.mp h
            refine Sm_callV K (eok_i (eo ek_D_readText (i := 26) rfl) rfl) cy_D_step im_D_step se_D_step (lgm 568 (by decide +kernel) rfl) ⟨Nat.le_of_ble_eq_true rfl, Nat.le_of_ble_eq_true rfl⟩ (as := []) (b := t) (st := []) (ob_e e_o10) (by decide) rfl rfl rfl rfl (Nat.le_of_ble_eq_true rfl) ⟨Nat.le_of_ble_eq_true rfl, Nat.le_of_ble_eq_true rfl⟩ (cn_D_step e_p9) ?_
            refine Sm_eq (st1 := []) (nc1 := 0) (ns1 := 0) rfl rfl rfl ?_
            refine Sm_run K ek_D_readText 27 2 rfl ?_
            exact Sm_le (leR_s (leR_s (leR_s leR_nil))) (ih _ _ _ _ h)
          · rw [if_neg c8] at h
            refine Sm_run K ek_D_readText 24 1 rfl ?_
            exact Sm_le (leR_s (leR_n (leR_n leR_nil))) (s_D_readText_58 K hQ _ _ h)
        · rw [if_pos c6] at h
          refine Sm_run K ek_D_readText 18 1 rfl ?_
          obtain rfl := Option.some.inj h
          exact Sm_reti K hQ (eok_i (eo ek_D_readText (i := 19) rfl) rfl)
      · rw [if_pos c4] at h
        refine Sm_run K ek_D_readText 14 1 rfl ?_
        exact Sm_le (leR_s (leR_n (leR_n leR_nil))) (s_D_readText_58 K hQ _ _ h)
set_option maxHeartbeats 4000000 in
set_option maxRecDepth 100000 in
theorem s_D_readText_0 {G : Gx} {X : Cx} {res : Int32 × A_W} (K : Ok G X 1 c_D_readText 3 (some .int) rm_D_readText) (hQ : QQ G X (some (.int res.1)) res.2 0 0) (t : Nat) (x1 : Nat) (w : A_W) (h : F_D_readText_0 t x1 w = some res) : Sm G X w 0 0 [some (.ref t), some (.ref x1), none] [] 0 := by
  unfold F_D_readText_0 at h
  refine Sm_run K ek_D_readText 0 2 rfl ?_
  obtain ⟨w1, e_w1, h⟩ := Option.bind_eq_some_iff.mp h
  refine Sm_pi K (eo ek_D_readText (i := 2) rfl) rfl rfl e_w1 ?_
  refine Sm_run K ek_D_readText 3 1 rfl ?_
  obtain ⟨o3, e_o3, h⟩ := Option.bind_eq_some_iff.mp h
  obtain ⟨p2, e_p2, h⟩ := Option.bind_eq_some_iff.mp h
  refine Sm_callV K (eok_i (eo ek_D_readText (i := 4) rfl) rfl) cy_D_step im_D_step se_D_step (lgm 568 (by decide +kernel) rfl) ⟨Nat.le_of_ble_eq_true rfl, Nat.le_of_ble_eq_true rfl⟩ (as := []) (b := t) (st := []) (ob_e e_o3) (by decide) rfl rfl rfl rfl (Nat.le_of_ble_eq_true rfl) ⟨Nat.le_of_ble_eq_true rfl, Nat.le_of_ble_eq_true rfl⟩ (cn_D_step e_p2) ?_
  refine Sm_eq (st1 := []) (nc1 := 0) (ns1 := 0) rfl rfl rfl ?_
  refine Sm_run K ek_D_readText 5 2 rfl ?_
  exact Sm_le (leR_s (leR_s (leR_s leR_nil))) (s_D_readText_11 K hQ FU _ _ _ _ h)
def F_D_readText (t : Nat) (x1 : Nat) (w : A_W) : Option (Int32 × A_W) := F_D_readText_0 t x1 w
theorem cn_D_readText {G : Gx} {t : Nat} {x1 : Nat} {w : A_W} {res : Int32 × A_W} (h : F_D_readText t x1 w = some res) : Cn G y_D_readText c_D_readText 3 (some .int) rm_D_readText [.ref t, .ref x1] w (some (.int res.1)) res.2 :=
  Cn_of (own := 1) cy_D_readText rfl rfl (Nat.le_of_ble_eq_true rfl) rfl (fun X K _ hQ => Sm_le (leR_s (leR_s (leR_n leR_nil))) (s_D_readText_0 K hQ _ _ _ h))
/-! EveningCloak.text()I -/
abbrev c_K_text : ByteArray := prog_1_method_32_code
def y_K_text : MethodName := ⟨"EveningCloak", "text", "()I"⟩
def rm_K_text : Room := { frames := 9, cells := 0, slots := 0, locals := 198 }
theorem cy_K_text : Cy y_K_text c_K_text 2 (some .int) 0 := ⟨lgm 563 (by decide +kernel) rfl, lgm 68 (by decide +kernel) rfl, by decide +kernel, by decide +kernel⟩
theorem im_K_text : Cond.instanceMethod y_K_text ∈ lg := lgm 561 (by decide +kernel) rfl
theorem se_K_text : Cond.selects y_K_text.cls y_K_text y_K_text ∈ lg := lgm 562 (by decide +kernel) rfl
def e_K_text : List Ent := [
  (0, .aload_n 0, 1, 1, .null, 0, 0, 0),
  (1, .getfield 16, 3, 4, .null, 0, 1, 218),
  (4, .aload_n 0, 1, 5, .null, 0, 0, 0),
  (5, .getfield 12, 3, 8, .null, 0, 0, 217),
  (8, .invokevirtual 187, 3, 11, .null, 0, 0, 0),
  (11, .aload_n 0, 1, 12, .null, 0, 0, 0),
  (12, .getfield 25, 3, 15, .null, 0, 4, 221),
  (15, .aload_n 0, 1, 16, .null, 0, 0, 0),
  (16, .getfield 16, 3, 19, .null, 0, 1, 218),
  (19, .invokevirtual 191, 3, 22, .null, 0, 0, 0),
  (22, .istore_n 1, 1, 23, .null, 0, 0, 0),
  (23, .iload_n 1, 1, 24, .null, 0, 0, 0),
  (24, .ifCond .le 14, 3, 38, .null, 0, 0, 0),
  (27, .aload_n 0, 1, 28, .null, 0, 0, 0),
  (28, .getfield 12, 3, 31, .null, 0, 0, 217),
  (31, .aload_n 0, 1, 32, .null, 0, 0, 0),
  (32, .getfield 16, 3, 35, .null, 0, 1, 218),
  (35, .invokevirtual 187, 3, 38, .null, 0, 0, 0),
  (38, .aload_n 0, 1, 39, .null, 0, 0, 0),
  (39, .getfield 25, 3, 42, .null, 0, 4, 221),
  (42, .iconst 0, 1, 43, .int 0, 0, 0, 0),
  (43, .putfield 181, 3, 46, .null, 1, 1, 179),
  (46, .iload_n 1, 1, 47, .null, 0, 0, 0),
  (47, .ireturn, 1, 48, .null, 0, 0, 0)]
set_option maxRecDepth 100000 in
theorem ek_K_text : e_K_text.all (eok 0 c_K_text) = true := by decide +kernel
def F_K_text_38 (t : Nat) (x1 : Int32) (w : A_W) : Option (Int32 × A_W) :=
  (gr w t 0 4).bind fun a1 =>
  (pf w a1 1 1 (.int 0)).bind fun w2 =>
  some (x1, w2)
def F_K_text_0 (t : Nat) (w : A_W) : Option (Int32 × A_W) :=
  (gr w t 0 1).bind fun a1 =>
  (gr w t 0 0).bind fun a2 =>
  (ob w a1 2).bind fun o4 =>
  (F_R_become a1 a2 w).bind fun p3 =>
  (gr p3 t 0 4).bind fun a5 =>
  (gr p3 t 0 1).bind fun a6 =>
  (ob p3 a5 1).bind fun o8 =>
  (F_D_readText a5 a6 p3).bind fun p7 =>
  if p7.1 ≤ 0 then
    F_K_text_38 t p7.1 p7.2
  else
    (gr p7.2 t 0 0).bind fun a10 =>
    (gr p7.2 t 0 1).bind fun a11 =>
    (ob p7.2 a10 2).bind fun o13 =>
    (F_R_become a10 a11 p7.2).bind fun p12 =>
    F_K_text_38 t p7.1 p12
set_option maxHeartbeats 4000000 in
set_option maxRecDepth 100000 in
theorem s_K_text_38 {G : Gx} {X : Cx} {res : Int32 × A_W} (K : Ok G X 0 c_K_text 2 (some .int) rm_K_text) (hQ : QQ G X (some (.int res.1)) res.2 0 0) (t : Nat) (x1 : Int32) (w : A_W) (h : F_K_text_38 t x1 w = some res) : Sm G X w 0 0 [some (.ref t), some (.int x1)] [] 38 := by
  unfold F_K_text_38 at h
  refine Sm_run K ek_K_text 18 1 rfl ?_
  obtain ⟨a1, e_a1, h⟩ := Option.bind_eq_some_iff.mp h
  refine Sm_gr K (eo ek_K_text (i := 19) rfl) e_a1 ?_
  refine Sm_run K ek_K_text 20 1 rfl ?_
  obtain ⟨w2, e_w2, h⟩ := Option.bind_eq_some_iff.mp h
  refine Sm_pi K (eo ek_K_text (i := 21) rfl) rfl rfl e_w2 ?_
  refine Sm_run K ek_K_text 22 1 rfl ?_
  obtain rfl := Option.some.inj h
  exact Sm_reti K hQ (eok_i (eo ek_K_text (i := 23) rfl) rfl)
set_option maxHeartbeats 4000000 in
set_option maxRecDepth 100000 in
theorem s_K_text_0 {G : Gx} {X : Cx} {res : Int32 × A_W} (K : Ok G X 0 c_K_text 2 (some .int) rm_K_text) (hQ : QQ G X (some (.int res.1)) res.2 0 0) (t : Nat) (w : A_W) (h : F_K_text_0 t w = some res) : Sm G X w 0 0 [some (.ref t), none] [] 0 := by
  unfold F_K_text_0 at h
  refine Sm_run K ek_K_text 0 1 rfl ?_
  obtain ⟨a1, e_a1, h⟩ := Option.bind_eq_some_iff.mp h
  refine Sm_gr K (eo ek_K_text (i := 1) rfl) e_a1 ?_
  refine Sm_run K ek_K_text 2 1 rfl ?_
  obtain ⟨a2, e_a2, h⟩ := Option.bind_eq_some_iff.mp h
  refine Sm_gr K (eo ek_K_text (i := 3) rfl) e_a2 ?_
  obtain ⟨o4, e_o4, h⟩ := Option.bind_eq_some_iff.mp h
  obtain ⟨p3, e_p3, h⟩ := Option.bind_eq_some_iff.mp h
  refine Sm_callV K (eok_i (eo ek_K_text (i := 4) rfl) rfl) cy_R_become im_R_become se_R_become (lgm 417 (by decide +kernel) rfl) ⟨Nat.le_of_ble_eq_true rfl, Nat.le_of_ble_eq_true rfl⟩ (as := [.ref a2]) (b := a1) (st := []) (ob_e e_o4) (by decide) rfl rfl rfl rfl (Nat.le_of_ble_eq_true rfl) ⟨Nat.le_of_ble_eq_true rfl, Nat.le_of_ble_eq_true rfl⟩ (cn_R_become e_p3) ?_
  refine Sm_eq (st1 := []) (nc1 := 0) (ns1 := 0) rfl rfl rfl ?_
  refine Sm_run K ek_K_text 5 1 rfl ?_
  obtain ⟨a5, e_a5, h⟩ := Option.bind_eq_some_iff.mp h
  refine Sm_gr K (eo ek_K_text (i := 6) rfl) e_a5 ?_
  refine Sm_run K ek_K_text 7 1 rfl ?_
  obtain ⟨a6, e_a6, h⟩ := Option.bind_eq_some_iff.mp h
  refine Sm_gr K (eo ek_K_text (i := 8) rfl) e_a6 ?_
  obtain ⟨o8, e_o8, h⟩ := Option.bind_eq_some_iff.mp h
  obtain ⟨p7, e_p7, h⟩ := Option.bind_eq_some_iff.mp h
  refine Sm_callV K (eok_i (eo ek_K_text (i := 9) rfl) rfl) cy_D_readText im_D_readText se_D_readText (lgm 564 (by decide +kernel) rfl) ⟨Nat.le_of_ble_eq_true rfl, Nat.le_of_ble_eq_true rfl⟩ (as := [.ref a6]) (b := a5) (st := []) (ob_e e_o8) (by decide) rfl rfl rfl rfl (Nat.le_of_ble_eq_true rfl) ⟨Nat.le_of_ble_eq_true rfl, Nat.le_of_ble_eq_true rfl⟩ (cn_D_readText e_p7) ?_
  refine Sm_eq (st1 := .int p7.1 :: []) (nc1 := 0) (ns1 := 0) rfl rfl rfl ?_
  refine Sm_run K ek_K_text 10 2 rfl ?_
  refine Sm_if_le K (eo ek_K_text (i := 12) rfl) (fun c9 => ?_) (fun c9 => ?_)
  · rw [if_pos c9] at h
    exact Sm_le (leR_s (leR_s leR_nil)) (s_K_text_38 K hQ _ _ _ h)
  · rw [if_neg c9] at h
    refine Sm_run K ek_K_text 13 1 rfl ?_
    obtain ⟨a10, e_a10, h⟩ := Option.bind_eq_some_iff.mp h
    refine Sm_gr K (eo ek_K_text (i := 14) rfl) e_a10 ?_
    refine Sm_run K ek_K_text 15 1 rfl ?_
    obtain ⟨a11, e_a11, h⟩ := Option.bind_eq_some_iff.mp h
    refine Sm_gr K (eo ek_K_text (i := 16) rfl) e_a11 ?_
    obtain ⟨o13, e_o13, h⟩ := Option.bind_eq_some_iff.mp h
    obtain ⟨p12, e_p12, h⟩ := Option.bind_eq_some_iff.mp h
    refine Sm_callV K (eok_i (eo ek_K_text (i := 17) rfl) rfl) cy_R_become im_R_become se_R_become (lgm 417 (by decide +kernel) rfl) ⟨Nat.le_of_ble_eq_true rfl, Nat.le_of_ble_eq_true rfl⟩ (as := [.ref a11]) (b := a10) (st := []) (ob_e e_o13) (by decide) rfl rfl rfl rfl (Nat.le_of_ble_eq_true rfl) ⟨Nat.le_of_ble_eq_true rfl, Nat.le_of_ble_eq_true rfl⟩ (cn_R_become e_p12) ?_
    refine Sm_eq (st1 := []) (nc1 := 0) (ns1 := 0) rfl rfl rfl ?_
    exact Sm_le (leR_s (leR_s leR_nil)) (s_K_text_38 K hQ _ _ _ h)
def F_K_text (t : Nat) (w : A_W) : Option (Int32 × A_W) := F_K_text_0 t w
theorem cn_K_text {G : Gx} {t : Nat} {w : A_W} {res : Int32 × A_W} (h : F_K_text t w = some res) : Cn G y_K_text c_K_text 2 (some .int) rm_K_text [.ref t] w (some (.int res.1)) res.2 :=
  Cn_of (own := 0) cy_K_text rfl rfl (Nat.le_of_ble_eq_true rfl) rfl (fun X K _ hQ => Sm_le (leR_s (leR_n leR_nil)) (s_K_text_0 K hQ _ _ h))
/-! EveningCloak.isSpot(I)Z -/
abbrev c_K_isSpot : ByteArray := prog_1_method_50_code
def y_K_isSpot : MethodName := ⟨"EveningCloak", "isSpot", "(I)Z"⟩
def rm_K_isSpot : Room := { frames := 1, cells := 0, slots := 0, locals := 22 }
theorem cy_K_isSpot : Cy y_K_isSpot c_K_isSpot 1 (some .boolean) 1 := ⟨lgm 684 (by decide +kernel) rfl, lgm 68 (by decide +kernel) rfl, by decide +kernel, by decide +kernel⟩
theorem st_K_isSpot : Cond.static y_K_isSpot ∈ lg := lgm 683 (by decide +kernel) rfl
def e_K_isSpot : List Ent := [
  (0, .iload_n 0, 1, 1, .null, 0, 0, 0),
  (1, .iconst 0, 1, 2, .int 0, 0, 0, 0),
  (2, .bipush 9, 2, 4, .int 9, 0, 0, 0),
  (4, .invokestatic 40, 3, 7, .null, 0, 0, 0),
  (7, .ireturn, 1, 8, .null, 0, 0, 0)]
set_option maxRecDepth 100000 in
theorem ek_K_isSpot : e_K_isSpot.all (eok 0 c_K_isSpot) = true := by decide +kernel
def F_K_isSpot_0 (x0 : Int32) (w : A_W) : Option (Int32 × A_W) :=
  (F_K_within x0 0 9 w).bind fun p1 =>
  (bz p1.1).bind fun b2 =>
  some (b2, p1.2)
set_option maxHeartbeats 4000000 in
set_option maxRecDepth 100000 in
theorem s_K_isSpot_0 {G : Gx} {X : Cx} {res : Int32 × A_W} (K : Ok G X 0 c_K_isSpot 1 (some .boolean) rm_K_isSpot) (hQ : QQ G X (some (.int res.1)) res.2 0 0) (x0 : Int32) (w : A_W) (h : F_K_isSpot_0 x0 w = some res) : Sm G X w 0 0 [some (.int x0)] [] 0 := by
  unfold F_K_isSpot_0 at h
  refine Sm_run K ek_K_isSpot 0 3 rfl ?_
  obtain ⟨p1, e_p1, h⟩ := Option.bind_eq_some_iff.mp h
  refine Sm_callS K (eok_i (eo ek_K_isSpot (i := 3) rfl) rfl) cy_K_within st_K_within (lgm 243 (by decide +kernel) rfl) ⟨Nat.le_of_ble_eq_true rfl, Nat.le_of_ble_eq_true rfl⟩ (as := [.int x0, .int 0, .int 9]) (st := []) rfl rfl rfl (Nat.le_of_ble_eq_true rfl) ⟨Nat.le_of_ble_eq_true rfl, Nat.le_of_ble_eq_true rfl⟩ (cn_K_within e_p1) ?_
  refine Sm_eq (st1 := .int p1.1 :: []) (nc1 := 0) (ns1 := 0) rfl rfl rfl ?_
  obtain ⟨b2, e_b2, h⟩ := Option.bind_eq_some_iff.mp h
  obtain rfl := Option.some.inj h
  exact Sm_retz K e_b2 hQ (eok_i (eo ek_K_isSpot (i := 4) rfl) rfl)
def F_K_isSpot (x0 : Int32) (w : A_W) : Option (Int32 × A_W) := F_K_isSpot_0 x0 w
theorem cn_K_isSpot {G : Gx} {x0 : Int32} {w : A_W} {res : Int32 × A_W} (h : F_K_isSpot x0 w = some res) : Cn G y_K_isSpot c_K_isSpot 1 (some .boolean) rm_K_isSpot [.int x0] w (some (.int res.1)) res.2 :=
  Cn_of (own := 0) cy_K_isSpot rfl rfl (Nat.le_of_ble_eq_true rfl) rfl (fun X K _ hQ => Sm_le (leR_s leR_nil) (s_K_isSpot_0 K hQ _ _ h))
/-! EveningCloak.hold(II)I -/
abbrev c_K_hold : ByteArray := prog_1_method_33_code
def y_K_hold : MethodName := ⟨"EveningCloak", "hold", "(II)I"⟩
def rm_K_hold : Room := { frames := 2, cells := 0, slots := 0, locals := 43 }
theorem cy_K_hold : Cy y_K_hold c_K_hold 3 (some .int) 2 := ⟨lgm 681 (by decide +kernel) rfl, lgm 68 (by decide +kernel) rfl, by decide +kernel, by decide +kernel⟩
theorem im_K_hold : Cond.instanceMethod y_K_hold ∈ lg := lgm 679 (by decide +kernel) rfl
theorem se_K_hold : Cond.selects y_K_hold.cls y_K_hold y_K_hold ∈ lg := lgm 680 (by decide +kernel) rfl
def e_K_hold : List Ent := [
  (0, .iload_n 1, 1, 1, .null, 0, 0, 0),
  (1, .invokestatic 195, 3, 4, .null, 0, 0, 0),
  (4, .ifCond .eq 19, 3, 23, .null, 0, 0, 0),
  (7, .iload_n 2, 1, 8, .null, 0, 0, 0),
  (8, .iconst (-1), 1, 9, .int (-1), 0, 0, 0),
  (9, .if_icmp .eq 20, 3, 29, .null, 0, 0, 0),
  (12, .aload_n 0, 1, 13, .null, 0, 0, 0),
  (13, .getfield 12, 3, 16, .null, 0, 0, 217),
  (16, .iload_n 2, 1, 17, .null, 0, 0, 0),
  (17, .invokevirtual 75, 3, 20, .null, 0, 0, 0),
  (20, .ifCond .ne 9, 3, 29, .null, 0, 0, 0),
  (23, .aload_n 0, 1, 24, .null, 0, 0, 0),
  (24, .iconst 0, 1, 25, .int 0, 0, 0, 0),
  (25, .invokevirtual 48, 3, 28, .null, 0, 0, 0),
  (28, .ireturn, 1, 29, .null, 0, 0, 0),
  (29, .aload_n 0, 1, 30, .null, 0, 0, 0),
  (30, .getfield 12, 3, 33, .null, 0, 0, 217),
  (33, .getfield 198, 3, 36, .null, 2, 15, 136),
  (36, .iload_n 1, 1, 37, .null, 0, 0, 0),
  (37, .iload_n 2, 1, 38, .null, 0, 0, 0),
  (38, .iastore, 1, 39, .null, 0, 0, 0),
  (39, .iconst 1, 1, 40, .int 1, 0, 0, 0),
  (40, .ireturn, 1, 41, .null, 0, 0, 0)]
set_option maxRecDepth 100000 in
theorem ek_K_hold : e_K_hold.all (eok 0 c_K_hold) = true := by decide +kernel
def F_K_hold_23 (t : Nat) (w : A_W) : Option (Int32 × A_W) :=
  (ob w t 0).bind fun o2 =>
  (F_K_finding t 0 w).bind fun p1 =>
  some (p1.1, p1.2)
def F_K_hold_29 (t : Nat) (x1 : Int32) (x2 : Int32) (w : A_W) : Option (Int32 × A_W) :=
  (gr w t 0 0).bind fun a1 =>
  (gr w a1 2 15).bind fun a2 =>
  (wr w a2 x1 x2).bind fun w3 =>
  some (1, w3)
def F_K_hold_0 (t : Nat) (x1 : Int32) (x2 : Int32) (w : A_W) : Option (Int32 × A_W) :=
  (F_K_isSpot x1 w).bind fun p1 =>
  if p1.1 = 0 then
    F_K_hold_23 t p1.2
  else
    if x2 = (-1) then
      F_K_hold_29 t x1 x2 p1.2
    else
      (gr p1.2 t 0 0).bind fun a4 =>
      (ob p1.2 a4 2).bind fun o6 =>
      (F_R_hasDeposit a4 x2 p1.2).bind fun p5 =>
      if p5.1 = 0 then
        F_K_hold_23 t p5.2
      else
        F_K_hold_29 t x1 x2 p5.2
set_option maxHeartbeats 4000000 in
set_option maxRecDepth 100000 in
theorem s_K_hold_23 {G : Gx} {X : Cx} {res : Int32 × A_W} (K : Ok G X 0 c_K_hold 3 (some .int) rm_K_hold) (hQ : QQ G X (some (.int res.1)) res.2 0 0) (t : Nat) (w : A_W) (h : F_K_hold_23 t w = some res) : Sm G X w 0 0 [some (.ref t), none, none] [] 23 := by
  unfold F_K_hold_23 at h
  refine Sm_run K ek_K_hold 11 2 rfl ?_
  obtain ⟨o2, e_o2, h⟩ := Option.bind_eq_some_iff.mp h
  obtain ⟨p1, e_p1, h⟩ := Option.bind_eq_some_iff.mp h
  refine Sm_callV K (eok_i (eo ek_K_hold (i := 13) rfl) rfl) cy_K_finding im_K_finding se_K_finding (lgm 249 (by decide +kernel) rfl) ⟨Nat.le_of_ble_eq_true rfl, Nat.le_of_ble_eq_true rfl⟩ (as := [.int 0]) (b := t) (st := []) (ob_e e_o2) (by decide) rfl rfl rfl rfl (Nat.le_of_ble_eq_true rfl) ⟨Nat.le_of_ble_eq_true rfl, Nat.le_of_ble_eq_true rfl⟩ (cn_K_finding e_p1) ?_
  refine Sm_eq (st1 := .int p1.1 :: []) (nc1 := 0) (ns1 := 0) rfl rfl rfl ?_
  obtain rfl := Option.some.inj h
  exact Sm_reti K hQ (eok_i (eo ek_K_hold (i := 14) rfl) rfl)
set_option maxHeartbeats 4000000 in
set_option maxRecDepth 100000 in
theorem s_K_hold_29 {G : Gx} {X : Cx} {res : Int32 × A_W} (K : Ok G X 0 c_K_hold 3 (some .int) rm_K_hold) (hQ : QQ G X (some (.int res.1)) res.2 0 0) (t : Nat) (x1 : Int32) (x2 : Int32) (w : A_W) (h : F_K_hold_29 t x1 x2 w = some res) : Sm G X w 0 0 [some (.ref t), some (.int x1), some (.int x2)] [] 29 := by
  unfold F_K_hold_29 at h
  refine Sm_run K ek_K_hold 15 1 rfl ?_
  obtain ⟨a1, e_a1, h⟩ := Option.bind_eq_some_iff.mp h
  refine Sm_gr K (eo ek_K_hold (i := 16) rfl) e_a1 ?_
  obtain ⟨a2, e_a2, h⟩ := Option.bind_eq_some_iff.mp h
  refine Sm_gr K (eo ek_K_hold (i := 17) rfl) e_a2 ?_
  refine Sm_run K ek_K_hold 18 2 rfl ?_
  obtain ⟨w3, e_w3, h⟩ := Option.bind_eq_some_iff.mp h
  refine Sm_wr K (eok_i (eo ek_K_hold (i := 20) rfl) rfl) e_w3 ?_
  refine Sm_run K ek_K_hold 21 1 rfl ?_
  obtain rfl := Option.some.inj h
  exact Sm_reti K hQ (eok_i (eo ek_K_hold (i := 22) rfl) rfl)
set_option maxHeartbeats 4000000 in
set_option maxRecDepth 100000 in
theorem s_K_hold_0 {G : Gx} {X : Cx} {res : Int32 × A_W} (K : Ok G X 0 c_K_hold 3 (some .int) rm_K_hold) (hQ : QQ G X (some (.int res.1)) res.2 0 0) (t : Nat) (x1 : Int32) (x2 : Int32) (w : A_W) (h : F_K_hold_0 t x1 x2 w = some res) : Sm G X w 0 0 [some (.ref t), some (.int x1), some (.int x2)] [] 0 := by
  unfold F_K_hold_0 at h
  refine Sm_run K ek_K_hold 0 1 rfl ?_
  obtain ⟨p1, e_p1, h⟩ := Option.bind_eq_some_iff.mp h
  refine Sm_callS K (eok_i (eo ek_K_hold (i := 1) rfl) rfl) cy_K_isSpot st_K_isSpot (lgm 682 (by decide +kernel) rfl) ⟨Nat.le_of_ble_eq_true rfl, Nat.le_of_ble_eq_true rfl⟩ (as := [.int x1]) (st := []) rfl rfl rfl (Nat.le_of_ble_eq_true rfl) ⟨Nat.le_of_ble_eq_true rfl, Nat.le_of_ble_eq_true rfl⟩ (cn_K_isSpot e_p1) ?_
  refine Sm_eq (st1 := .int p1.1 :: []) (nc1 := 0) (ns1 := 0) rfl rfl rfl ?_
  refine Sm_if_eq K (eo ek_K_hold (i := 2) rfl) (fun c2 => ?_) (fun c2 => ?_)
  · rw [if_pos c2] at h
    exact Sm_le (leR_s (leR_n (leR_n leR_nil))) (s_K_hold_23 K hQ _ _ h)
  · rw [if_neg c2] at h
    refine Sm_run K ek_K_hold 3 2 rfl ?_
    refine Sm_ic_eq K (eo ek_K_hold (i := 5) rfl) (fun c3 => ?_) (fun c3 => ?_)
    · rw [if_pos c3] at h
      exact Sm_le (leR_s (leR_s (leR_s leR_nil))) (s_K_hold_29 K hQ _ _ _ _ h)
    · rw [if_neg c3] at h
      refine Sm_run K ek_K_hold 6 1 rfl ?_
      obtain ⟨a4, e_a4, h⟩ := Option.bind_eq_some_iff.mp h
      refine Sm_gr K (eo ek_K_hold (i := 7) rfl) e_a4 ?_
      refine Sm_run K ek_K_hold 8 1 rfl ?_
      obtain ⟨o6, e_o6, h⟩ := Option.bind_eq_some_iff.mp h
      obtain ⟨p5, e_p5, h⟩ := Option.bind_eq_some_iff.mp h
      refine Sm_callV K (eok_i (eo ek_K_hold (i := 9) rfl) rfl) cy_R_hasDeposit im_R_hasDeposit se_R_hasDeposit (lgm 284 (by decide +kernel) rfl) ⟨Nat.le_of_ble_eq_true rfl, Nat.le_of_ble_eq_true rfl⟩ (as := [.int x2]) (b := a4) (st := []) (ob_e e_o6) (by decide) rfl rfl rfl rfl (Nat.le_of_ble_eq_true rfl) ⟨Nat.le_of_ble_eq_true rfl, Nat.le_of_ble_eq_true rfl⟩ (cn_R_hasDeposit e_p5) ?_
      refine Sm_eq (st1 := .int p5.1 :: []) (nc1 := 0) (ns1 := 0) rfl rfl rfl ?_
      refine Sm_if_ne K (eo ek_K_hold (i := 10) rfl) (fun c7 => ?_) (fun c7 => ?_)
      · rw [if_neg c7] at h
        exact Sm_le (leR_s (leR_s (leR_s leR_nil))) (s_K_hold_29 K hQ _ _ _ _ h)
      · rw [if_pos c7] at h
        exact Sm_le (leR_s (leR_n (leR_n leR_nil))) (s_K_hold_23 K hQ _ _ h)
def F_K_hold (t : Nat) (x1 : Int32) (x2 : Int32) (w : A_W) : Option (Int32 × A_W) := F_K_hold_0 t x1 x2 w
theorem cn_K_hold {G : Gx} {t : Nat} {x1 : Int32} {x2 : Int32} {w : A_W} {res : Int32 × A_W} (h : F_K_hold t x1 x2 w = some res) : Cn G y_K_hold c_K_hold 3 (some .int) rm_K_hold [.ref t, .int x1, .int x2] w (some (.int res.1)) res.2 :=
  Cn_of (own := 0) cy_K_hold rfl rfl (Nat.le_of_ble_eq_true rfl) rfl (fun X K _ hQ => Sm_le (leR_s (leR_s (leR_s leR_nil))) (s_K_hold_0 K hQ _ _ _ _ h))
/-! EveningCloak.isUnder(II)Z -/
abbrev c_K_isUnder : ByteArray := prog_1_method_53_code
def y_K_isUnder : MethodName := ⟨"EveningCloak", "isUnder", "(II)Z"⟩
def rm_K_isUnder : Room := { frames := 0, cells := 0, slots := 0, locals := 0 }
theorem cy_K_isUnder : Cy y_K_isUnder c_K_isUnder 4 (some .boolean) 2 := ⟨lgm 691 (by decide +kernel) rfl, lgm 68 (by decide +kernel) rfl, by decide +kernel, by decide +kernel⟩
theorem st_K_isUnder : Cond.static y_K_isUnder ∈ lg := lgm 690 (by decide +kernel) rfl
def e_K_isUnder : List Ent := [
  (0, .iload_n 0, 1, 1, .null, 0, 0, 0),
  (1, .istore_n 2, 1, 2, .null, 0, 0, 0),
  (2, .iconst 0, 1, 3, .int 0, 0, 0, 0),
  (3, .istore_n 3, 1, 4, .null, 0, 0, 0),
  (4, .iload_n 3, 1, 5, .null, 0, 0, 0),
  (5, .bipush 7, 2, 7, .int 7, 0, 0, 0),
  (7, .if_icmp .ge 27, 3, 34, .null, 0, 0, 0),
  (10, .iload_n 2, 1, 11, .null, 0, 0, 0),
  (11, .iconst (-1), 1, 12, .int (-1), 0, 0, 0),
  (12, .if_icmp .eq 22, 3, 34, .null, 0, 0, 0),
  (15, .iload_n 2, 1, 16, .null, 0, 0, 0),
  (16, .iload_n 1, 1, 17, .null, 0, 0, 0),
  (17, .if_icmp .ne 5, 3, 22, .null, 0, 0, 0),
  (20, .iconst 1, 1, 21, .int 1, 0, 0, 0),
  (21, .ireturn, 1, 22, .null, 0, 0, 0),
  (22, .getstatic 258, 3, 25, .ref (aA 3), 0, 3, 692),
  (25, .iload_n 2, 1, 26, .null, 0, 0, 0),
  (26, .iaload, 1, 27, .null, 0, 0, 0),
  (27, .istore_n 2, 1, 28, .null, 0, 0, 0),
  (28, .iinc 3 1, 3, 31, .int 1, 0, 0, 0),
  (31, .goto (-27), 3, 4, .null, 0, 0, 0),
  (34, .iconst 0, 1, 35, .int 0, 0, 0, 0),
  (35, .ireturn, 1, 36, .null, 0, 0, 0)]
set_option maxRecDepth 100000 in
theorem ek_K_isUnder : e_K_isUnder.all (eok 0 c_K_isUnder) = true := by decide +kernel
def F_K_isUnder_34 (w : A_W) : Option (Int32 × A_W) :=
  (bz 0).bind fun b1 =>
  some (b1, w)
def F_K_isUnder_4 : Nat → Int32 → Int32 → Int32 → A_W → Option (Int32 × A_W)
  | 0, _, _, _, _ => none
  | n + 1, x1, x2, x3, w =>
    if 7 ≤ x3 then
      F_K_isUnder_34 w
    else
      if x2 = (-1) then
        F_K_isUnder_34 w
      else
        if x2 = x1 then
          (bz 1).bind fun b5 =>
          some (b5, w)
        else
          (rs 3 x2).bind fun v4 =>
          F_K_isUnder_4 n x1 v4 (x3 + 1) w
def F_K_isUnder_0 (x0 : Int32) (x1 : Int32) (w : A_W) : Option (Int32 × A_W) :=
  F_K_isUnder_4 FU x1 x0 0 w
set_option maxHeartbeats 4000000 in
set_option maxRecDepth 100000 in
theorem s_K_isUnder_34 {G : Gx} {X : Cx} {res : Int32 × A_W} (K : Ok G X 0 c_K_isUnder 4 (some .boolean) rm_K_isUnder) (hQ : QQ G X (some (.int res.1)) res.2 0 0) (w : A_W) (h : F_K_isUnder_34 w = some res) : Sm G X w 0 0 [none, none, none, none] [] 34 := by
  unfold F_K_isUnder_34 at h
  refine Sm_run K ek_K_isUnder 21 1 rfl ?_
  obtain ⟨b1, e_b1, h⟩ := Option.bind_eq_some_iff.mp h
  obtain rfl := Option.some.inj h
  exact Sm_retz K e_b1 hQ (eok_i (eo ek_K_isUnder (i := 22) rfl) rfl)
set_option maxHeartbeats 4000000 in
set_option maxRecDepth 100000 in
theorem s_K_isUnder_4 {G : Gx} {X : Cx} {res : Int32 × A_W} (K : Ok G X 0 c_K_isUnder 4 (some .boolean) rm_K_isUnder) (hQ : QQ G X (some (.int res.1)) res.2 0 0) : ∀ (n : Nat) (x1 : Int32) (x2 : Int32) (x3 : Int32) (w : A_W), F_K_isUnder_4 n x1 x2 x3 w = some res → Sm G X w 0 0 [none, some (.int x1), some (.int x2), some (.int x3)] [] 4 := by
  intro n
  induction n with
  | zero => intro x1 x2 x3 w h; cases h
  | succ n ih =>
    intro x1 x2 x3 w h
    rw [F_K_isUnder_4] at h
    refine Sm_run K ek_K_isUnder 4 2 rfl ?_
    refine Sm_ic_ge K (eo ek_K_isUnder (i := 6) rfl) (fun c1 => ?_) (fun c1 => ?_)
    · rw [if_pos c1] at h
      exact Sm_le (leR_n (leR_n (leR_n (leR_n leR_nil)))) (s_K_isUnder_34 K hQ _ h)
    · rw [if_neg c1] at h
      refine Sm_run K ek_K_isUnder 7 2 rfl ?_
      refine Sm_ic_eq K (eo ek_K_isUnder (i := 9) rfl) (fun c2 => ?_) (fun c2 => ?_)
      · rw [if_pos c2] at h
        exact Sm_le (leR_n (leR_n (leR_n (leR_n leR_nil)))) (s_K_isUnder_34 K hQ _ h)
      · rw [if_neg c2] at h
        refine Sm_run K ek_K_isUnder 10 2 rfl ?_
        refine Sm_ic_ne K (eo ek_K_isUnder (i := 12) rfl) (fun c3 => ?_) (fun c3 => ?_)
        · rw [if_neg c3] at h
          refine Sm_run K ek_K_isUnder 15 2 rfl ?_
          obtain ⟨v4, e_v4, h⟩ := Option.bind_eq_some_iff.mp h
          refine Sm_rs K (eok_i (eo ek_K_isUnder (i := 17) rfl) rfl) e_v4 ?_
          refine Sm_run K ek_K_isUnder 18 3 rfl ?_
          exact Sm_le (leR_n (leR_s (leR_s (leR_s leR_nil)))) (ih _ _ _ _ h)
        · rw [if_pos c3] at h
          refine Sm_run K ek_K_isUnder 13 1 rfl ?_
          obtain ⟨b5, e_b5, h⟩ := Option.bind_eq_some_iff.mp h
          obtain rfl := Option.some.inj h
          exact Sm_retz K e_b5 hQ (eok_i (eo ek_K_isUnder (i := 14) rfl) rfl)
set_option maxHeartbeats 4000000 in
set_option maxRecDepth 100000 in
theorem s_K_isUnder_0 {G : Gx} {X : Cx} {res : Int32 × A_W} (K : Ok G X 0 c_K_isUnder 4 (some .boolean) rm_K_isUnder) (hQ : QQ G X (some (.int res.1)) res.2 0 0) (x0 : Int32) (x1 : Int32) (w : A_W) (h : F_K_isUnder_0 x0 x1 w = some res) : Sm G X w 0 0 [some (.int x0), some (.int x1), none, none] [] 0 := by
  unfold F_K_isUnder_0 at h
  refine Sm_run K ek_K_isUnder 0 4 rfl ?_
  exact Sm_le (leR_n (leR_s (leR_s (leR_s leR_nil)))) (s_K_isUnder_4 K hQ FU _ _ _ _ h)
def F_K_isUnder (x0 : Int32) (x1 : Int32) (w : A_W) : Option (Int32 × A_W) := F_K_isUnder_0 x0 x1 w
theorem cn_K_isUnder {G : Gx} {x0 : Int32} {x1 : Int32} {w : A_W} {res : Int32 × A_W} (h : F_K_isUnder x0 x1 w = some res) : Cn G y_K_isUnder c_K_isUnder 4 (some .boolean) rm_K_isUnder [.int x0, .int x1] w (some (.int res.1)) res.2 :=
  Cn_of (own := 0) cy_K_isUnder rfl rfl (Nat.le_of_ble_eq_true rfl) rfl (fun X K _ hQ => Sm_le (leR_s (leR_s (leR_n (leR_n leR_nil)))) (s_K_isUnder_0 K hQ _ _ _ h))
/-! EveningCloak.as(II)I -/
abbrev c_K_as : ByteArray := prog_1_method_34_code
def y_K_as : MethodName := ⟨"EveningCloak", "as", "(II)I"⟩
def rm_K_as : Room := { frames := 2, cells := 0, slots := 0, locals := 43 }
theorem cy_K_as : Cy y_K_as c_K_as 4 (some .int) 2 := ⟨lgm 688 (by decide +kernel) rfl, lgm 68 (by decide +kernel) rfl, by decide +kernel, by decide +kernel⟩
theorem im_K_as : Cond.instanceMethod y_K_as ∈ lg := lgm 686 (by decide +kernel) rfl
theorem se_K_as : Cond.selects y_K_as.cls y_K_as y_K_as ∈ lg := lgm 687 (by decide +kernel) rfl
def e_K_as : List Ent := [
  (0, .iload_n 1, 1, 1, .null, 0, 0, 0),
  (1, .invokestatic 195, 3, 4, .null, 0, 0, 0),
  (4, .ifCond .eq 10, 3, 14, .null, 0, 0, 0),
  (7, .iload_n 2, 1, 8, .null, 0, 0, 0),
  (8, .invokestatic 59, 3, 11, .null, 0, 0, 0),
  (11, .ifCond .ne 9, 3, 20, .null, 0, 0, 0),
  (14, .aload_n 0, 1, 15, .null, 0, 0, 0),
  (15, .iconst 0, 1, 16, .int 0, 0, 0, 0),
  (16, .invokevirtual 48, 3, 19, .null, 0, 0, 0),
  (19, .ireturn, 1, 20, .null, 0, 0, 0),
  (20, .aload_n 0, 1, 21, .null, 0, 0, 0),
  (21, .getfield 12, 3, 24, .null, 0, 0, 217),
  (24, .getfield 198, 3, 27, .null, 2, 15, 136),
  (27, .iload_n 1, 1, 28, .null, 0, 0, 0),
  (28, .iaload, 1, 29, .null, 0, 0, 0),
  (29, .istore_n 3, 1, 30, .null, 0, 0, 0),
  (30, .aload_n 0, 1, 31, .null, 0, 0, 0),
  (31, .getfield 12, 3, 34, .null, 0, 0, 217),
  (34, .iload_n 3, 1, 35, .null, 0, 0, 0),
  (35, .invokevirtual 75, 3, 38, .null, 0, 0, 0),
  (38, .ifCond .ne 9, 3, 47, .null, 0, 0, 0),
  (41, .aload_n 0, 1, 42, .null, 0, 0, 0),
  (42, .iconst 5, 1, 43, .int 5, 0, 0, 0),
  (43, .invokevirtual 48, 3, 46, .null, 0, 0, 0),
  (46, .ireturn, 1, 47, .null, 0, 0, 0),
  (47, .aload_n 0, 1, 48, .null, 0, 0, 0),
  (48, .getfield 12, 3, 51, .null, 0, 0, 217),
  (51, .getfield 201, 3, 54, .null, 2, 6, 114),
  (54, .iload_n 3, 1, 55, .null, 0, 0, 0),
  (55, .iaload, 1, 56, .null, 0, 0, 0),
  (56, .iload_n 2, 1, 57, .null, 0, 0, 0),
  (57, .invokestatic 204, 3, 60, .null, 0, 0, 0),
  (60, .ifCond .eq 7, 3, 67, .null, 0, 0, 0),
  (63, .iload_n 3, 1, 64, .null, 0, 0, 0),
  (64, .goto 8, 3, 72, .null, 0, 0, 0),
  (67, .aload_n 0, 1, 68, .null, 0, 0, 0),
  (68, .iconst 2, 1, 69, .int 2, 0, 0, 0),
  (69, .invokevirtual 48, 3, 72, .null, 0, 0, 0),
  (72, .ireturn, 1, 73, .null, 0, 0, 0)]
set_option maxRecDepth 100000 in
theorem ek_K_as : e_K_as.all (eok 0 c_K_as) = true := by decide +kernel
def F_K_as_14 (t : Nat) (w : A_W) : Option (Int32 × A_W) :=
  (ob w t 0).bind fun o2 =>
  (F_K_finding t 0 w).bind fun p1 =>
  some (p1.1, p1.2)
def F_K_as_72 (y0 : Int32) (w : A_W) : Option (Int32 × A_W) :=
  some (y0, w)
def F_K_as_0 (t : Nat) (x1 : Int32) (x2 : Int32) (w : A_W) : Option (Int32 × A_W) :=
  (F_K_isSpot x1 w).bind fun p1 =>
  if p1.1 = 0 then
    F_K_as_14 t p1.2
  else
    (F_K_isKind x2 p1.2).bind fun p3 =>
    if p3.1 = 0 then
      F_K_as_14 t p3.2
    else
      (gr p3.2 t 0 0).bind fun a5 =>
      (gr p3.2 a5 2 15).bind fun a6 =>
      (rd p3.2 a6 x1).bind fun v7 =>
      (gr p3.2 t 0 0).bind fun a8 =>
      (ob p3.2 a8 2).bind fun o10 =>
      (F_R_hasDeposit a8 v7 p3.2).bind fun p9 =>
      if p9.1 = 0 then
        (ob p9.2 t 0).bind fun o20 =>
        (F_K_finding t 5 p9.2).bind fun p19 =>
        some (p19.1, p19.2)
      else
        (gr p9.2 t 0 0).bind fun a12 =>
        (gr p9.2 a12 2 6).bind fun a13 =>
        (rd p9.2 a13 v7).bind fun v14 =>
        (F_K_isUnder v14 x2 p9.2).bind fun p15 =>
        if p15.1 = 0 then
          (ob p15.2 t 0).bind fun o18 =>
          (F_K_finding t 2 p15.2).bind fun p17 =>
          F_K_as_72 p17.1 p17.2
        else
          F_K_as_72 v7 p15.2
set_option maxHeartbeats 4000000 in
set_option maxRecDepth 100000 in
theorem s_K_as_14 {G : Gx} {X : Cx} {res : Int32 × A_W} (K : Ok G X 0 c_K_as 4 (some .int) rm_K_as) (hQ : QQ G X (some (.int res.1)) res.2 0 0) (t : Nat) (w : A_W) (h : F_K_as_14 t w = some res) : Sm G X w 0 0 [some (.ref t), none, none, none] [] 14 := by
  unfold F_K_as_14 at h
  refine Sm_run K ek_K_as 6 2 rfl ?_
  obtain ⟨o2, e_o2, h⟩ := Option.bind_eq_some_iff.mp h
  obtain ⟨p1, e_p1, h⟩ := Option.bind_eq_some_iff.mp h
  refine Sm_callV K (eok_i (eo ek_K_as (i := 8) rfl) rfl) cy_K_finding im_K_finding se_K_finding (lgm 249 (by decide +kernel) rfl) ⟨Nat.le_of_ble_eq_true rfl, Nat.le_of_ble_eq_true rfl⟩ (as := [.int 0]) (b := t) (st := []) (ob_e e_o2) (by decide) rfl rfl rfl rfl (Nat.le_of_ble_eq_true rfl) ⟨Nat.le_of_ble_eq_true rfl, Nat.le_of_ble_eq_true rfl⟩ (cn_K_finding e_p1) ?_
  refine Sm_eq (st1 := .int p1.1 :: []) (nc1 := 0) (ns1 := 0) rfl rfl rfl ?_
  obtain rfl := Option.some.inj h
  exact Sm_reti K hQ (eok_i (eo ek_K_as (i := 9) rfl) rfl)
set_option maxHeartbeats 4000000 in
set_option maxRecDepth 100000 in
theorem s_K_as_72 {G : Gx} {X : Cx} {res : Int32 × A_W} (K : Ok G X 0 c_K_as 4 (some .int) rm_K_as) (hQ : QQ G X (some (.int res.1)) res.2 0 0) (y0 : Int32) (w : A_W) (h : F_K_as_72 y0 w = some res) : Sm G X w 0 0 [none, none, none, none] [.int y0] 72 := by
  unfold F_K_as_72 at h
  obtain rfl := Option.some.inj h
  exact Sm_reti K hQ (eok_i (eo ek_K_as (i := 38) rfl) rfl)
set_option maxHeartbeats 4000000 in
set_option maxRecDepth 100000 in
theorem s_K_as_0 {G : Gx} {X : Cx} {res : Int32 × A_W} (K : Ok G X 0 c_K_as 4 (some .int) rm_K_as) (hQ : QQ G X (some (.int res.1)) res.2 0 0) (t : Nat) (x1 : Int32) (x2 : Int32) (w : A_W) (h : F_K_as_0 t x1 x2 w = some res) : Sm G X w 0 0 [some (.ref t), some (.int x1), some (.int x2), none] [] 0 := by
  unfold F_K_as_0 at h
  refine Sm_run K ek_K_as 0 1 rfl ?_
  obtain ⟨p1, e_p1, h⟩ := Option.bind_eq_some_iff.mp h
  refine Sm_callS K (eok_i (eo ek_K_as (i := 1) rfl) rfl) cy_K_isSpot st_K_isSpot (lgm 682 (by decide +kernel) rfl) ⟨Nat.le_of_ble_eq_true rfl, Nat.le_of_ble_eq_true rfl⟩ (as := [.int x1]) (st := []) rfl rfl rfl (Nat.le_of_ble_eq_true rfl) ⟨Nat.le_of_ble_eq_true rfl, Nat.le_of_ble_eq_true rfl⟩ (cn_K_isSpot e_p1) ?_
  refine Sm_eq (st1 := .int p1.1 :: []) (nc1 := 0) (ns1 := 0) rfl rfl rfl ?_
  refine Sm_if_eq K (eo ek_K_as (i := 2) rfl) (fun c2 => ?_) (fun c2 => ?_)
  · rw [if_pos c2] at h
    exact Sm_le (leR_s (leR_n (leR_n (leR_n leR_nil)))) (s_K_as_14 K hQ _ _ h)
  · rw [if_neg c2] at h
    refine Sm_run K ek_K_as 3 1 rfl ?_
    obtain ⟨p3, e_p3, h⟩ := Option.bind_eq_some_iff.mp h
    refine Sm_callS K (eok_i (eo ek_K_as (i := 4) rfl) rfl) cy_K_isKind st_K_isKind (lgm 265 (by decide +kernel) rfl) ⟨Nat.le_of_ble_eq_true rfl, Nat.le_of_ble_eq_true rfl⟩ (as := [.int x2]) (st := []) rfl rfl rfl (Nat.le_of_ble_eq_true rfl) ⟨Nat.le_of_ble_eq_true rfl, Nat.le_of_ble_eq_true rfl⟩ (cn_K_isKind e_p3) ?_
    refine Sm_eq (st1 := .int p3.1 :: []) (nc1 := 0) (ns1 := 0) rfl rfl rfl ?_
    refine Sm_if_ne K (eo ek_K_as (i := 5) rfl) (fun c4 => ?_) (fun c4 => ?_)
    · rw [if_neg c4] at h
      refine Sm_run K ek_K_as 10 1 rfl ?_
      obtain ⟨a5, e_a5, h⟩ := Option.bind_eq_some_iff.mp h
      refine Sm_gr K (eo ek_K_as (i := 11) rfl) e_a5 ?_
      obtain ⟨a6, e_a6, h⟩ := Option.bind_eq_some_iff.mp h
      refine Sm_gr K (eo ek_K_as (i := 12) rfl) e_a6 ?_
      refine Sm_run K ek_K_as 13 1 rfl ?_
      obtain ⟨v7, e_v7, h⟩ := Option.bind_eq_some_iff.mp h
      refine Sm_rd K (eok_i (eo ek_K_as (i := 14) rfl) rfl) e_v7 ?_
      refine Sm_run K ek_K_as 15 2 rfl ?_
      obtain ⟨a8, e_a8, h⟩ := Option.bind_eq_some_iff.mp h
      refine Sm_gr K (eo ek_K_as (i := 17) rfl) e_a8 ?_
      refine Sm_run K ek_K_as 18 1 rfl ?_
      obtain ⟨o10, e_o10, h⟩ := Option.bind_eq_some_iff.mp h
      obtain ⟨p9, e_p9, h⟩ := Option.bind_eq_some_iff.mp h
      refine Sm_callV K (eok_i (eo ek_K_as (i := 19) rfl) rfl) cy_R_hasDeposit im_R_hasDeposit se_R_hasDeposit (lgm 284 (by decide +kernel) rfl) ⟨Nat.le_of_ble_eq_true rfl, Nat.le_of_ble_eq_true rfl⟩ (as := [.int v7]) (b := a8) (st := []) (ob_e e_o10) (by decide) rfl rfl rfl rfl (Nat.le_of_ble_eq_true rfl) ⟨Nat.le_of_ble_eq_true rfl, Nat.le_of_ble_eq_true rfl⟩ (cn_R_hasDeposit e_p9) ?_
      refine Sm_eq (st1 := .int p9.1 :: []) (nc1 := 0) (ns1 := 0) rfl rfl rfl ?_
      refine Sm_if_ne K (eo ek_K_as (i := 20) rfl) (fun c11 => ?_) (fun c11 => ?_)
      · rw [if_neg c11] at h
        refine Sm_run K ek_K_as 25 1 rfl ?_
        obtain ⟨a12, e_a12, h⟩ := Option.bind_eq_some_iff.mp h
        refine Sm_gr K (eo ek_K_as (i := 26) rfl) e_a12 ?_
        obtain ⟨a13, e_a13, h⟩ := Option.bind_eq_some_iff.mp h
        refine Sm_gr K (eo ek_K_as (i := 27) rfl) e_a13 ?_
        refine Sm_run K ek_K_as 28 1 rfl ?_
        obtain ⟨v14, e_v14, h⟩ := Option.bind_eq_some_iff.mp h
        refine Sm_rd K (eok_i (eo ek_K_as (i := 29) rfl) rfl) e_v14 ?_
        refine Sm_run K ek_K_as 30 1 rfl ?_
        obtain ⟨p15, e_p15, h⟩ := Option.bind_eq_some_iff.mp h
        refine Sm_callS K (eok_i (eo ek_K_as (i := 31) rfl) rfl) cy_K_isUnder st_K_isUnder (lgm 689 (by decide +kernel) rfl) ⟨Nat.le_of_ble_eq_true rfl, Nat.le_of_ble_eq_true rfl⟩ (as := [.int v14, .int x2]) (st := []) rfl rfl rfl (Nat.le_of_ble_eq_true rfl) ⟨Nat.le_of_ble_eq_true rfl, Nat.le_of_ble_eq_true rfl⟩ (cn_K_isUnder e_p15) ?_
        refine Sm_eq (st1 := .int p15.1 :: []) (nc1 := 0) (ns1 := 0) rfl rfl rfl ?_
        refine Sm_if_eq K (eo ek_K_as (i := 32) rfl) (fun c16 => ?_) (fun c16 => ?_)
        · rw [if_pos c16] at h
          refine Sm_run K ek_K_as 35 2 rfl ?_
          obtain ⟨o18, e_o18, h⟩ := Option.bind_eq_some_iff.mp h
          obtain ⟨p17, e_p17, h⟩ := Option.bind_eq_some_iff.mp h
          refine Sm_callV K (eok_i (eo ek_K_as (i := 37) rfl) rfl) cy_K_finding im_K_finding se_K_finding (lgm 249 (by decide +kernel) rfl) ⟨Nat.le_of_ble_eq_true rfl, Nat.le_of_ble_eq_true rfl⟩ (as := [.int 2]) (b := t) (st := []) (ob_e e_o18) (by decide) rfl rfl rfl rfl (Nat.le_of_ble_eq_true rfl) ⟨Nat.le_of_ble_eq_true rfl, Nat.le_of_ble_eq_true rfl⟩ (cn_K_finding e_p17) ?_
          refine Sm_eq (st1 := .int p17.1 :: []) (nc1 := 0) (ns1 := 0) rfl rfl rfl ?_
          exact Sm_le (leR_n (leR_n (leR_n (leR_n leR_nil)))) (s_K_as_72 K hQ _ _ h)
        · rw [if_neg c16] at h
          refine Sm_run K ek_K_as 33 2 rfl ?_
          exact Sm_le (leR_n (leR_n (leR_n (leR_n leR_nil)))) (s_K_as_72 K hQ _ _ h)
      · rw [if_pos c11] at h
        refine Sm_run K ek_K_as 21 2 rfl ?_
        obtain ⟨o20, e_o20, h⟩ := Option.bind_eq_some_iff.mp h
        obtain ⟨p19, e_p19, h⟩ := Option.bind_eq_some_iff.mp h
        refine Sm_callV K (eok_i (eo ek_K_as (i := 23) rfl) rfl) cy_K_finding im_K_finding se_K_finding (lgm 249 (by decide +kernel) rfl) ⟨Nat.le_of_ble_eq_true rfl, Nat.le_of_ble_eq_true rfl⟩ (as := [.int 5]) (b := t) (st := []) (ob_e e_o20) (by decide) rfl rfl rfl rfl (Nat.le_of_ble_eq_true rfl) ⟨Nat.le_of_ble_eq_true rfl, Nat.le_of_ble_eq_true rfl⟩ (cn_K_finding e_p19) ?_
        refine Sm_eq (st1 := .int p19.1 :: []) (nc1 := 0) (ns1 := 0) rfl rfl rfl ?_
        obtain rfl := Option.some.inj h
        exact Sm_reti K hQ (eok_i (eo ek_K_as (i := 24) rfl) rfl)
    · rw [if_pos c4] at h
      exact Sm_le (leR_s (leR_n (leR_n (leR_n leR_nil)))) (s_K_as_14 K hQ _ _ h)
def F_K_as (t : Nat) (x1 : Int32) (x2 : Int32) (w : A_W) : Option (Int32 × A_W) := F_K_as_0 t x1 x2 w
theorem cn_K_as {G : Gx} {t : Nat} {x1 : Int32} {x2 : Int32} {w : A_W} {res : Int32 × A_W} (h : F_K_as t x1 x2 w = some res) : Cn G y_K_as c_K_as 4 (some .int) rm_K_as [.ref t, .int x1, .int x2] w (some (.int res.1)) res.2 :=
  Cn_of (own := 0) cy_K_as rfl rfl (Nat.le_of_ble_eq_true rfl) rfl (fun X K _ hQ => Sm_le (leR_s (leR_s (leR_s (leR_n leR_nil)))) (s_K_as_0 K hQ _ _ _ _ h))
/-! EveningCloak$Sheet.begin(II)V -/
abbrev c_S_begin : ByteArray := prog_4_method_3_code
def y_S_begin : MethodName := ⟨"EveningCloak$Sheet", "begin", "(II)V"⟩
def rm_S_begin : Room := { frames := 1, cells := 0, slots := 0, locals := 23 }
theorem cy_S_begin : Cy y_S_begin c_S_begin 3 (none) 2 := ⟨lgm 701 (by decide +kernel) rfl, lgm 72 (by decide +kernel) rfl, by decide +kernel, by decide +kernel⟩
theorem im_S_begin : Cond.instanceMethod y_S_begin ∈ lg := lgm 699 (by decide +kernel) rfl
theorem se_S_begin : Cond.selects y_S_begin.cls y_S_begin y_S_begin ∈ lg := lgm 700 (by decide +kernel) rfl
def e_S_begin : List Ent := [
  (0, .aload_n 0, 1, 1, .null, 0, 0, 0),
  (1, .iload_n 1, 1, 2, .null, 0, 0, 0),
  (2, .putfield 15, 3, 5, .null, 3, 0, 204),
  (5, .aload_n 0, 1, 6, .null, 0, 0, 0),
  (6, .iload_n 2, 1, 7, .null, 0, 0, 0),
  (7, .putfield 19, 3, 10, .null, 3, 1, 206),
  (10, .aload_n 0, 1, 11, .null, 0, 0, 0),
  (11, .getfield 9, 3, 14, .null, 3, 2, 208),
  (14, .iconst 0, 1, 15, .int 0, 0, 0, 0),
  (15, .invokestatic 22, 3, 18, .null, 0, 0, 0),
  (18, .return_, 1, 19, .null, 0, 0, 0)]
set_option maxRecDepth 100000 in
theorem ek_S_begin : e_S_begin.all (eok 3 c_S_begin) = true := by decide +kernel
def F_S_begin_0 (t : Nat) (x1 : Int32) (x2 : Int32) (w : A_W) : Option (A_W) :=
  (pf w t 3 0 (.int x1)).bind fun w1 =>
  (pf w1 t 3 1 (.int x2)).bind fun w2 =>
  (gr w2 t 3 2).bind fun a3 =>
  (F_JA_fill a3 0 w2).bind fun p4 =>
  some p4
set_option maxHeartbeats 4000000 in
set_option maxRecDepth 100000 in
theorem s_S_begin_0 {G : Gx} {X : Cx} {res : A_W} (K : Ok G X 3 c_S_begin 3 (none) rm_S_begin) (hQ : QQ G X none res 0 0) (t : Nat) (x1 : Int32) (x2 : Int32) (w : A_W) (h : F_S_begin_0 t x1 x2 w = some res) : Sm G X w 0 0 [some (.ref t), some (.int x1), some (.int x2)] [] 0 := by
  unfold F_S_begin_0 at h
  refine Sm_run K ek_S_begin 0 2 rfl ?_
  obtain ⟨w1, e_w1, h⟩ := Option.bind_eq_some_iff.mp h
  refine Sm_pi K (eo ek_S_begin (i := 2) rfl) rfl rfl e_w1 ?_
  refine Sm_run K ek_S_begin 3 2 rfl ?_
  obtain ⟨w2, e_w2, h⟩ := Option.bind_eq_some_iff.mp h
  refine Sm_pi K (eo ek_S_begin (i := 5) rfl) rfl rfl e_w2 ?_
  refine Sm_run K ek_S_begin 6 1 rfl ?_
  obtain ⟨a3, e_a3, h⟩ := Option.bind_eq_some_iff.mp h
  refine Sm_gr K (eo ek_S_begin (i := 7) rfl) e_a3 ?_
  refine Sm_run K ek_S_begin 8 1 rfl ?_
  obtain ⟨p4, e_p4, h⟩ := Option.bind_eq_some_iff.mp h
  refine Sm_callS K (eok_i (eo ek_S_begin (i := 9) rfl) rfl) cy_JA_fill st_JA_fill (lgm 702 (by decide +kernel) rfl) ⟨Nat.le_of_ble_eq_true rfl, Nat.le_of_ble_eq_true rfl⟩ (as := [.ref a3, .int 0]) (st := []) rfl rfl rfl (Nat.le_of_ble_eq_true rfl) ⟨Nat.le_of_ble_eq_true rfl, Nat.le_of_ble_eq_true rfl⟩ (cn_JA_fill e_p4) ?_
  refine Sm_eq (st1 := []) (nc1 := 0) (ns1 := 0) rfl rfl rfl ?_
  obtain rfl := Option.some.inj h
  exact Sm_retv K hQ (eok_i (eo ek_S_begin (i := 10) rfl) rfl)
def F_S_begin (t : Nat) (x1 : Int32) (x2 : Int32) (w : A_W) : Option (A_W) := F_S_begin_0 t x1 x2 w
theorem cn_S_begin {G : Gx} {t : Nat} {x1 : Int32} {x2 : Int32} {w : A_W} {res : A_W} (h : F_S_begin t x1 x2 w = some res) : Cn G y_S_begin c_S_begin 3 (none) rm_S_begin [.ref t, .int x1, .int x2] w none res :=
  Cn_of (own := 3) cy_S_begin rfl rfl (Nat.le_of_ble_eq_true rfl) rfl (fun X K _ hQ => Sm_le (leR_s (leR_s (leR_s leR_nil))) (s_S_begin_0 K hQ _ _ _ _ h))
/-! EveningCloak.sheet(III)I -/
abbrev c_K_sheet : ByteArray := prog_1_method_35_code
def y_K_sheet : MethodName := ⟨"EveningCloak", "sheet", "(III)I"⟩
def rm_K_sheet : Room := { frames := 2, cells := 0, slots := 0, locals := 45 }
theorem cy_K_sheet : Cy y_K_sheet c_K_sheet 4 (some .int) 3 := ⟨lgm 697 (by decide +kernel) rfl, lgm 68 (by decide +kernel) rfl, by decide +kernel, by decide +kernel⟩
theorem im_K_sheet : Cond.instanceMethod y_K_sheet ∈ lg := lgm 695 (by decide +kernel) rfl
theorem se_K_sheet : Cond.selects y_K_sheet.cls y_K_sheet y_K_sheet ∈ lg := lgm 696 (by decide +kernel) rfl
def e_K_sheet : List Ent := [
  (0, .iload_n 1, 1, 1, .null, 0, 0, 0),
  (1, .invokestatic 207, 3, 4, .null, 0, 0, 0),
  (4, .ifCond .eq 25, 3, 29, .null, 0, 0, 0),
  (7, .iload_n 2, 1, 8, .null, 0, 0, 0),
  (8, .ifCond .eq 27, 3, 35, .null, 0, 0, 0),
  (11, .iload_n 2, 1, 12, .null, 0, 0, 0),
  (12, .bipush 8, 2, 14, .int 8, 0, 0, 0),
  (14, .if_icmp .eq 21, 3, 35, .null, 0, 0, 0),
  (17, .iload_n 2, 1, 18, .null, 0, 0, 0),
  (18, .bipush 16, 2, 20, .int 16, 0, 0, 0),
  (20, .if_icmp .eq 15, 3, 35, .null, 0, 0, 0),
  (23, .iload_n 2, 1, 24, .null, 0, 0, 0),
  (24, .bipush 32, 2, 26, .int 32, 0, 0, 0),
  (26, .if_icmp .eq 9, 3, 35, .null, 0, 0, 0),
  (29, .aload_n 0, 1, 30, .null, 0, 0, 0),
  (30, .iconst 0, 1, 31, .int 0, 0, 0, 0),
  (31, .invokevirtual 48, 3, 34, .null, 0, 0, 0),
  (34, .ireturn, 1, 35, .null, 0, 0, 0),
  (35, .iload_n 3, 1, 36, .null, 0, 0, 0),
  (36, .ifCond .ge 10, 3, 46, .null, 0, 0, 0),
  (39, .aload_n 0, 1, 40, .null, 0, 0, 0),
  (40, .bipush 6, 2, 42, .int 6, 0, 0, 0),
  (42, .invokevirtual 48, 3, 45, .null, 0, 0, 0),
  (45, .ireturn, 1, 46, .null, 0, 0, 0),
  (46, .iload_n 3, 1, 47, .null, 0, 0, 0),
  (47, .bipush 40, 2, 49, .int 40, 0, 0, 0),
  (49, .if_icmp .le 9, 3, 58, .null, 0, 0, 0),
  (52, .aload_n 0, 1, 53, .null, 0, 0, 0),
  (53, .iconst 0, 1, 54, .int 0, 0, 0, 0),
  (54, .invokevirtual 48, 3, 57, .null, 0, 0, 0),
  (57, .ireturn, 1, 58, .null, 0, 0, 0),
  (58, .aload_n 0, 1, 59, .null, 0, 0, 0),
  (59, .getfield 31, 3, 62, .null, 0, 5, 222),
  (62, .iload_n 1, 1, 63, .null, 0, 0, 0),
  (63, .aaload, 1, 64, .null, 0, 0, 0),
  (64, .iload_n 2, 1, 65, .null, 0, 0, 0),
  (65, .iload_n 2, 1, 66, .null, 0, 0, 0),
  (66, .ifCond .ne 7, 3, 73, .null, 0, 0, 0),
  (69, .iconst 0, 1, 70, .int 0, 0, 0, 0),
  (70, .goto 4, 3, 74, .null, 0, 0, 0),
  (73, .iload_n 3, 1, 74, .null, 0, 0, 0),
  (74, .invokevirtual 210, 3, 77, .null, 0, 0, 0),
  (77, .aload_n 0, 1, 78, .null, 0, 0, 0),
  (78, .getfield 31, 3, 81, .null, 0, 5, 222),
  (81, .iload_n 1, 1, 82, .null, 0, 0, 0),
  (82, .aaload, 1, 83, .null, 0, 0, 0),
  (83, .getfield 214, 3, 86, .null, 3, 1, 207),
  (86, .ireturn, 1, 87, .null, 0, 0, 0)]
set_option maxRecDepth 100000 in
theorem ek_K_sheet : e_K_sheet.all (eok 0 c_K_sheet) = true := by decide +kernel
def F_K_sheet_29 (t : Nat) (w : A_W) : Option (Int32 × A_W) :=
  (ob w t 0).bind fun o2 =>
  (F_K_finding t 0 w).bind fun p1 =>
  some (p1.1, p1.2)
def F_K_sheet_74 (t : Nat) (x1 : Int32) (y0 : Nat) (y1 : Int32) (y2 : Int32) (w : A_W) : Option (Int32 × A_W) :=
  (ob w y0 3).bind fun o2 =>
  (F_S_begin y0 y1 y2 w).bind fun p1 =>
  (gr p1 t 0 5).bind fun a3 =>
  (ra p1 a3 x1).bind fun a4 =>
  (gi p1 a4 3 1).bind fun v5 =>
  some (v5, p1)
def F_K_sheet_35 (t : Nat) (x1 : Int32) (x2 : Int32) (x3 : Int32) (w : A_W) : Option (Int32 × A_W) :=
  if 0 ≤ x3 then
    if x3 ≤ 40 then
      (gr w t 0 5).bind fun a3 =>
      (ra w a3 x1).bind fun a4 =>
      if x2 = 0 then
        F_K_sheet_74 t x1 a4 x2 0 w
      else
        F_K_sheet_74 t x1 a4 x2 x3 w
    else
      (ob w t 0).bind fun o7 =>
      (F_K_finding t 0 w).bind fun p6 =>
      some (p6.1, p6.2)
  else
    (ob w t 0).bind fun o9 =>
    (F_K_finding t 6 w).bind fun p8 =>
    some (p8.1, p8.2)
def F_K_sheet_0 (t : Nat) (x1 : Int32) (x2 : Int32) (x3 : Int32) (w : A_W) : Option (Int32 × A_W) :=
  (F_K_isSheet x1 w).bind fun p1 =>
  if p1.1 = 0 then
    F_K_sheet_29 t p1.2
  else
    if x2 = 0 then
      F_K_sheet_35 t x1 x2 x3 p1.2
    else
      if x2 = 8 then
        F_K_sheet_35 t x1 x2 x3 p1.2
      else
        if x2 = 16 then
          F_K_sheet_35 t x1 x2 x3 p1.2
        else
          if x2 = 32 then
            F_K_sheet_35 t x1 x2 x3 p1.2
          else
            F_K_sheet_29 t p1.2
set_option maxHeartbeats 4000000 in
set_option maxRecDepth 100000 in
theorem s_K_sheet_29 {G : Gx} {X : Cx} {res : Int32 × A_W} (K : Ok G X 0 c_K_sheet 4 (some .int) rm_K_sheet) (hQ : QQ G X (some (.int res.1)) res.2 0 0) (t : Nat) (w : A_W) (h : F_K_sheet_29 t w = some res) : Sm G X w 0 0 [some (.ref t), none, none, none] [] 29 := by
  unfold F_K_sheet_29 at h
  refine Sm_run K ek_K_sheet 14 2 rfl ?_
  obtain ⟨o2, e_o2, h⟩ := Option.bind_eq_some_iff.mp h
  obtain ⟨p1, e_p1, h⟩ := Option.bind_eq_some_iff.mp h
  refine Sm_callV K (eok_i (eo ek_K_sheet (i := 16) rfl) rfl) cy_K_finding im_K_finding se_K_finding (lgm 249 (by decide +kernel) rfl) ⟨Nat.le_of_ble_eq_true rfl, Nat.le_of_ble_eq_true rfl⟩ (as := [.int 0]) (b := t) (st := []) (ob_e e_o2) (by decide) rfl rfl rfl rfl (Nat.le_of_ble_eq_true rfl) ⟨Nat.le_of_ble_eq_true rfl, Nat.le_of_ble_eq_true rfl⟩ (cn_K_finding e_p1) ?_
  refine Sm_eq (st1 := .int p1.1 :: []) (nc1 := 0) (ns1 := 0) rfl rfl rfl ?_
  obtain rfl := Option.some.inj h
  exact Sm_reti K hQ (eok_i (eo ek_K_sheet (i := 17) rfl) rfl)
set_option maxHeartbeats 4000000 in
set_option maxRecDepth 100000 in
theorem s_K_sheet_74 {G : Gx} {X : Cx} {res : Int32 × A_W} (K : Ok G X 0 c_K_sheet 4 (some .int) rm_K_sheet) (hQ : QQ G X (some (.int res.1)) res.2 0 0) (t : Nat) (x1 : Int32) (y0 : Nat) (y1 : Int32) (y2 : Int32) (w : A_W) (h : F_K_sheet_74 t x1 y0 y1 y2 w = some res) : Sm G X w 0 0 [some (.ref t), some (.int x1), none, none] [.int y2, .int y1, .ref y0] 74 := by
  unfold F_K_sheet_74 at h
  obtain ⟨o2, e_o2, h⟩ := Option.bind_eq_some_iff.mp h
  obtain ⟨p1, e_p1, h⟩ := Option.bind_eq_some_iff.mp h
  refine Sm_callV K (eok_i (eo ek_K_sheet (i := 41) rfl) rfl) cy_S_begin im_S_begin se_S_begin (lgm 698 (by decide +kernel) rfl) ⟨Nat.le_of_ble_eq_true rfl, Nat.le_of_ble_eq_true rfl⟩ (as := [.int y1, .int y2]) (b := y0) (st := []) (ob_e e_o2) (by decide) rfl rfl rfl rfl (Nat.le_of_ble_eq_true rfl) ⟨Nat.le_of_ble_eq_true rfl, Nat.le_of_ble_eq_true rfl⟩ (cn_S_begin e_p1) ?_
  refine Sm_eq (st1 := []) (nc1 := 0) (ns1 := 0) rfl rfl rfl ?_
  refine Sm_run K ek_K_sheet 42 1 rfl ?_
  obtain ⟨a3, e_a3, h⟩ := Option.bind_eq_some_iff.mp h
  refine Sm_gr K (eo ek_K_sheet (i := 43) rfl) e_a3 ?_
  refine Sm_run K ek_K_sheet 44 1 rfl ?_
  obtain ⟨a4, e_a4, h⟩ := Option.bind_eq_some_iff.mp h
  refine Sm_ra K (eok_i (eo ek_K_sheet (i := 45) rfl) rfl) e_a4 ?_
  obtain ⟨v5, e_v5, h⟩ := Option.bind_eq_some_iff.mp h
  refine Sm_gi K (eo ek_K_sheet (i := 46) rfl) e_v5 ?_
  obtain rfl := Option.some.inj h
  exact Sm_reti K hQ (eok_i (eo ek_K_sheet (i := 47) rfl) rfl)
set_option maxHeartbeats 4000000 in
set_option maxRecDepth 100000 in
theorem s_K_sheet_35 {G : Gx} {X : Cx} {res : Int32 × A_W} (K : Ok G X 0 c_K_sheet 4 (some .int) rm_K_sheet) (hQ : QQ G X (some (.int res.1)) res.2 0 0) (t : Nat) (x1 : Int32) (x2 : Int32) (x3 : Int32) (w : A_W) (h : F_K_sheet_35 t x1 x2 x3 w = some res) : Sm G X w 0 0 [some (.ref t), some (.int x1), some (.int x2), some (.int x3)] [] 35 := by
  unfold F_K_sheet_35 at h
  refine Sm_run K ek_K_sheet 18 1 rfl ?_
  refine Sm_if_ge K (eo ek_K_sheet (i := 19) rfl) (fun c1 => ?_) (fun c1 => ?_)
  · rw [if_pos c1] at h
    refine Sm_run K ek_K_sheet 24 2 rfl ?_
    refine Sm_ic_le K (eo ek_K_sheet (i := 26) rfl) (fun c2 => ?_) (fun c2 => ?_)
    · rw [if_pos c2] at h
      refine Sm_run K ek_K_sheet 31 1 rfl ?_
      obtain ⟨a3, e_a3, h⟩ := Option.bind_eq_some_iff.mp h
      refine Sm_gr K (eo ek_K_sheet (i := 32) rfl) e_a3 ?_
      refine Sm_run K ek_K_sheet 33 1 rfl ?_
      obtain ⟨a4, e_a4, h⟩ := Option.bind_eq_some_iff.mp h
      refine Sm_ra K (eok_i (eo ek_K_sheet (i := 34) rfl) rfl) e_a4 ?_
      refine Sm_run K ek_K_sheet 35 2 rfl ?_
      refine Sm_if_ne K (eo ek_K_sheet (i := 37) rfl) (fun c5 => ?_) (fun c5 => ?_)
      · rw [if_neg c5] at h
        refine Sm_run K ek_K_sheet 40 1 rfl ?_
        exact Sm_le (leR_s (leR_s (leR_n (leR_n leR_nil)))) (s_K_sheet_74 K hQ _ _ _ _ _ _ h)
      · rw [if_pos c5] at h
        refine Sm_run K ek_K_sheet 38 2 rfl ?_
        exact Sm_le (leR_s (leR_s (leR_n (leR_n leR_nil)))) (s_K_sheet_74 K hQ _ _ _ _ _ _ h)
    · rw [if_neg c2] at h
      refine Sm_run K ek_K_sheet 27 2 rfl ?_
      obtain ⟨o7, e_o7, h⟩ := Option.bind_eq_some_iff.mp h
      obtain ⟨p6, e_p6, h⟩ := Option.bind_eq_some_iff.mp h
      refine Sm_callV K (eok_i (eo ek_K_sheet (i := 29) rfl) rfl) cy_K_finding im_K_finding se_K_finding (lgm 249 (by decide +kernel) rfl) ⟨Nat.le_of_ble_eq_true rfl, Nat.le_of_ble_eq_true rfl⟩ (as := [.int 0]) (b := t) (st := []) (ob_e e_o7) (by decide) rfl rfl rfl rfl (Nat.le_of_ble_eq_true rfl) ⟨Nat.le_of_ble_eq_true rfl, Nat.le_of_ble_eq_true rfl⟩ (cn_K_finding e_p6) ?_
      refine Sm_eq (st1 := .int p6.1 :: []) (nc1 := 0) (ns1 := 0) rfl rfl rfl ?_
      obtain rfl := Option.some.inj h
      exact Sm_reti K hQ (eok_i (eo ek_K_sheet (i := 30) rfl) rfl)
  · rw [if_neg c1] at h
    refine Sm_run K ek_K_sheet 20 2 rfl ?_
    obtain ⟨o9, e_o9, h⟩ := Option.bind_eq_some_iff.mp h
    obtain ⟨p8, e_p8, h⟩ := Option.bind_eq_some_iff.mp h
    refine Sm_callV K (eok_i (eo ek_K_sheet (i := 22) rfl) rfl) cy_K_finding im_K_finding se_K_finding (lgm 249 (by decide +kernel) rfl) ⟨Nat.le_of_ble_eq_true rfl, Nat.le_of_ble_eq_true rfl⟩ (as := [.int 6]) (b := t) (st := []) (ob_e e_o9) (by decide) rfl rfl rfl rfl (Nat.le_of_ble_eq_true rfl) ⟨Nat.le_of_ble_eq_true rfl, Nat.le_of_ble_eq_true rfl⟩ (cn_K_finding e_p8) ?_
    refine Sm_eq (st1 := .int p8.1 :: []) (nc1 := 0) (ns1 := 0) rfl rfl rfl ?_
    obtain rfl := Option.some.inj h
    exact Sm_reti K hQ (eok_i (eo ek_K_sheet (i := 23) rfl) rfl)
set_option maxHeartbeats 4000000 in
set_option maxRecDepth 100000 in
theorem s_K_sheet_0 {G : Gx} {X : Cx} {res : Int32 × A_W} (K : Ok G X 0 c_K_sheet 4 (some .int) rm_K_sheet) (hQ : QQ G X (some (.int res.1)) res.2 0 0) (t : Nat) (x1 : Int32) (x2 : Int32) (x3 : Int32) (w : A_W) (h : F_K_sheet_0 t x1 x2 x3 w = some res) : Sm G X w 0 0 [some (.ref t), some (.int x1), some (.int x2), some (.int x3)] [] 0 := by
  unfold F_K_sheet_0 at h
  refine Sm_run K ek_K_sheet 0 1 rfl ?_
  obtain ⟨p1, e_p1, h⟩ := Option.bind_eq_some_iff.mp h
  refine Sm_callS K (eok_i (eo ek_K_sheet (i := 1) rfl) rfl) cy_K_isSheet st_K_isSheet (lgm 508 (by decide +kernel) rfl) ⟨Nat.le_of_ble_eq_true rfl, Nat.le_of_ble_eq_true rfl⟩ (as := [.int x1]) (st := []) rfl rfl rfl (Nat.le_of_ble_eq_true rfl) ⟨Nat.le_of_ble_eq_true rfl, Nat.le_of_ble_eq_true rfl⟩ (cn_K_isSheet e_p1) ?_
  refine Sm_eq (st1 := .int p1.1 :: []) (nc1 := 0) (ns1 := 0) rfl rfl rfl ?_
  refine Sm_if_eq K (eo ek_K_sheet (i := 2) rfl) (fun c2 => ?_) (fun c2 => ?_)
  · rw [if_pos c2] at h
    exact Sm_le (leR_s (leR_n (leR_n (leR_n leR_nil)))) (s_K_sheet_29 K hQ _ _ h)
  · rw [if_neg c2] at h
    refine Sm_run K ek_K_sheet 3 1 rfl ?_
    refine Sm_if_eq K (eo ek_K_sheet (i := 4) rfl) (fun c3 => ?_) (fun c3 => ?_)
    · rw [if_pos c3] at h
      exact Sm_le (leR_s (leR_s (leR_s (leR_s leR_nil)))) (s_K_sheet_35 K hQ _ _ _ _ _ h)
    · rw [if_neg c3] at h
      refine Sm_run K ek_K_sheet 5 2 rfl ?_
      refine Sm_ic_eq K (eo ek_K_sheet (i := 7) rfl) (fun c4 => ?_) (fun c4 => ?_)
      · rw [if_pos c4] at h
        exact Sm_le (leR_s (leR_s (leR_s (leR_s leR_nil)))) (s_K_sheet_35 K hQ _ _ _ _ _ h)
      · rw [if_neg c4] at h
        refine Sm_run K ek_K_sheet 8 2 rfl ?_
        refine Sm_ic_eq K (eo ek_K_sheet (i := 10) rfl) (fun c5 => ?_) (fun c5 => ?_)
        · rw [if_pos c5] at h
          exact Sm_le (leR_s (leR_s (leR_s (leR_s leR_nil)))) (s_K_sheet_35 K hQ _ _ _ _ _ h)
        · rw [if_neg c5] at h
          refine Sm_run K ek_K_sheet 11 2 rfl ?_
          refine Sm_ic_eq K (eo ek_K_sheet (i := 13) rfl) (fun c6 => ?_) (fun c6 => ?_)
          · rw [if_pos c6] at h
            exact Sm_le (leR_s (leR_s (leR_s (leR_s leR_nil)))) (s_K_sheet_35 K hQ _ _ _ _ _ h)
          · rw [if_neg c6] at h
            exact Sm_le (leR_s (leR_n (leR_n (leR_n leR_nil)))) (s_K_sheet_29 K hQ _ _ h)
def F_K_sheet (t : Nat) (x1 : Int32) (x2 : Int32) (x3 : Int32) (w : A_W) : Option (Int32 × A_W) := F_K_sheet_0 t x1 x2 x3 w
theorem cn_K_sheet {G : Gx} {t : Nat} {x1 : Int32} {x2 : Int32} {x3 : Int32} {w : A_W} {res : Int32 × A_W} (h : F_K_sheet t x1 x2 x3 w = some res) : Cn G y_K_sheet c_K_sheet 4 (some .int) rm_K_sheet [.ref t, .int x1, .int x2, .int x3] w (some (.int res.1)) res.2 :=
  Cn_of (own := 0) cy_K_sheet rfl rfl (Nat.le_of_ble_eq_true rfl) rfl (fun X K _ hQ => Sm_le (leR_s (leR_s (leR_s (leR_s leR_nil)))) (s_K_sheet_0 K hQ _ _ _ _ _ h))
/-! EveningCloak$Sheet.put(II)V -/
abbrev c_S_put : ByteArray := prog_4_method_4_code
def y_S_put : MethodName := ⟨"EveningCloak$Sheet", "put", "(II)V"⟩
def rm_S_put : Room := { frames := 0, cells := 0, slots := 0, locals := 0 }
theorem cy_S_put : Cy y_S_put c_S_put 3 (none) 2 := ⟨lgm 710 (by decide +kernel) rfl, lgm 72 (by decide +kernel) rfl, by decide +kernel, by decide +kernel⟩
theorem im_S_put : Cond.instanceMethod y_S_put ∈ lg := lgm 708 (by decide +kernel) rfl
theorem se_S_put : Cond.selects y_S_put.cls y_S_put y_S_put ∈ lg := lgm 709 (by decide +kernel) rfl
def e_S_put : List Ent := [
  (0, .aload_n 0, 1, 1, .null, 0, 0, 0),
  (1, .getfield 15, 3, 4, .null, 3, 0, 204),
  (4, .lookupswitch 50 #[(8, 28), (16, 39)], 28, 32, .null, 0, 0, 0),
  (32, .aload_n 0, 1, 33, .null, 0, 0, 0),
  (33, .getfield 9, 3, 36, .null, 3, 2, 208),
  (36, .iload_n 1, 1, 37, .null, 0, 0, 0),
  (37, .iload_n 2, 1, 38, .null, 0, 0, 0),
  (38, .i2b, 1, 39, .null, 0, 0, 0),
  (39, .iastore, 1, 40, .null, 0, 0, 0),
  (40, .goto 21, 3, 61, .null, 0, 0, 0),
  (43, .aload_n 0, 1, 44, .null, 0, 0, 0),
  (44, .getfield 9, 3, 47, .null, 3, 2, 208),
  (47, .iload_n 1, 1, 48, .null, 0, 0, 0),
  (48, .iload_n 2, 1, 49, .null, 0, 0, 0),
  (49, .i2s, 1, 50, .null, 0, 0, 0),
  (50, .iastore, 1, 51, .null, 0, 0, 0),
  (51, .goto 10, 3, 61, .null, 0, 0, 0),
  (54, .aload_n 0, 1, 55, .null, 0, 0, 0),
  (55, .getfield 9, 3, 58, .null, 3, 2, 208),
  (58, .iload_n 1, 1, 59, .null, 0, 0, 0),
  (59, .iload_n 2, 1, 60, .null, 0, 0, 0),
  (60, .iastore, 1, 61, .null, 0, 0, 0),
  (61, .return_, 1, 62, .null, 0, 0, 0)]
set_option maxRecDepth 100000 in
theorem ek_S_put : e_S_put.all (eok 3 c_S_put) = true := by decide +kernel
def F_S_put_61 (w : A_W) : Option (A_W) :=
  some w
def F_S_put_0 (t : Nat) (x1 : Int32) (x2 : Int32) (w : A_W) : Option (A_W) :=
  (gi w t 3 0).bind fun v1 =>
  if v1 = 8 then
    (gr w t 3 2).bind fun a2 =>
    (wr w a2 x1 ((Int32.toInt8 x2).toInt32)).bind fun w3 =>
    F_S_put_61 w3
  else if v1 = 16 then
    (gr w t 3 2).bind fun a5 =>
    (wr w a5 x1 ((Int32.toInt16 x2).toInt32)).bind fun w6 =>
    F_S_put_61 w6
  else
    (gr w t 3 2).bind fun a8 =>
    (wr w a8 x1 x2).bind fun w9 =>
    F_S_put_61 w9
set_option maxHeartbeats 4000000 in
set_option maxRecDepth 100000 in
theorem s_S_put_61 {G : Gx} {X : Cx} {res : A_W} (K : Ok G X 3 c_S_put 3 (none) rm_S_put) (hQ : QQ G X none res 0 0) (w : A_W) (h : F_S_put_61 w = some res) : Sm G X w 0 0 [none, none, none] [] 61 := by
  unfold F_S_put_61 at h
  obtain rfl := Option.some.inj h
  exact Sm_retv K hQ (eok_i (eo ek_S_put (i := 22) rfl) rfl)
set_option maxHeartbeats 4000000 in
set_option maxRecDepth 100000 in
theorem s_S_put_0 {G : Gx} {X : Cx} {res : A_W} (K : Ok G X 3 c_S_put 3 (none) rm_S_put) (hQ : QQ G X none res 0 0) (t : Nat) (x1 : Int32) (x2 : Int32) (w : A_W) (h : F_S_put_0 t x1 x2 w = some res) : Sm G X w 0 0 [some (.ref t), some (.int x1), some (.int x2)] [] 0 := by
  unfold F_S_put_0 at h
  refine Sm_run K ek_S_put 0 1 rfl ?_
  obtain ⟨v1, e_v1, h⟩ := Option.bind_eq_some_iff.mp h
  refine Sm_gi K (eo ek_S_put (i := 1) rfl) e_v1 ?_
  by_cases c4 : v1 = 8
  · rw [if_pos c4] at h
    refine Sm_lsw K (eok_d (eo ek_S_put (i := 2) rfl)) (by decide) 32 (by rw [c4]; decide) ?_
    refine Sm_run K ek_S_put 3 1 rfl ?_
    obtain ⟨a2, e_a2, h⟩ := Option.bind_eq_some_iff.mp h
    refine Sm_gr K (eo ek_S_put (i := 4) rfl) e_a2 ?_
    refine Sm_run K ek_S_put 5 3 rfl ?_
    obtain ⟨w3, e_w3, h⟩ := Option.bind_eq_some_iff.mp h
    refine Sm_wr K (eok_i (eo ek_S_put (i := 8) rfl) rfl) e_w3 ?_
    refine Sm_run K ek_S_put 9 1 rfl ?_
    exact Sm_le (leR_n (leR_n (leR_n leR_nil))) (s_S_put_61 K hQ _ h)
  rw [if_neg c4] at h
  by_cases c7 : v1 = 16
  · rw [if_pos c7] at h
    refine Sm_lsw K (eok_d (eo ek_S_put (i := 2) rfl)) (by decide) 43 (by rw [c7]; decide) ?_
    refine Sm_run K ek_S_put 10 1 rfl ?_
    obtain ⟨a5, e_a5, h⟩ := Option.bind_eq_some_iff.mp h
    refine Sm_gr K (eo ek_S_put (i := 11) rfl) e_a5 ?_
    refine Sm_run K ek_S_put 12 3 rfl ?_
    obtain ⟨w6, e_w6, h⟩ := Option.bind_eq_some_iff.mp h
    refine Sm_wr K (eok_i (eo ek_S_put (i := 15) rfl) rfl) e_w6 ?_
    refine Sm_run K ek_S_put 16 1 rfl ?_
    exact Sm_le (leR_n (leR_n (leR_n leR_nil))) (s_S_put_61 K hQ _ h)
  rw [if_neg c7] at h
  refine Sm_lsw K (eok_d (eo ek_S_put (i := 2) rfl)) (by decide) 54 (lsw_out (ps2 := [(8, 28), (16, 39)]) rfl (by decide) (fun q hq => by simp only [List.mem_cons, List.not_mem_nil, or_false] at hq; rcases hq with rfl | rfl <;> intro hz <;> first | exact absurd (Int32.toInt_inj.mp (hz.trans (by decide : _ = (8 : Int32).toInt))) c4 | exact absurd (Int32.toInt_inj.mp (hz.trans (by decide : _ = (16 : Int32).toInt))) c7)) ?_
  refine Sm_run K ek_S_put 17 1 rfl ?_
  obtain ⟨a8, e_a8, h⟩ := Option.bind_eq_some_iff.mp h
  refine Sm_gr K (eo ek_S_put (i := 18) rfl) e_a8 ?_
  refine Sm_run K ek_S_put 19 2 rfl ?_
  obtain ⟨w9, e_w9, h⟩ := Option.bind_eq_some_iff.mp h
  refine Sm_wr K (eok_i (eo ek_S_put (i := 21) rfl) rfl) e_w9 ?_
  exact Sm_le (leR_n (leR_n (leR_n leR_nil))) (s_S_put_61 K hQ _ h)
def F_S_put (t : Nat) (x1 : Int32) (x2 : Int32) (w : A_W) : Option (A_W) := F_S_put_0 t x1 x2 w
theorem cn_S_put {G : Gx} {t : Nat} {x1 : Int32} {x2 : Int32} {w : A_W} {res : A_W} (h : F_S_put t x1 x2 w = some res) : Cn G y_S_put c_S_put 3 (none) rm_S_put [.ref t, .int x1, .int x2] w none res :=
  Cn_of (own := 3) cy_S_put rfl rfl (Nat.le_of_ble_eq_true rfl) rfl (fun X K _ hQ => Sm_le (leR_s (leR_s (leR_s leR_nil))) (s_S_put_0 K hQ _ _ _ _ h))
/-! EveningCloak.write(III)I -/
abbrev c_K_write : ByteArray := prog_1_method_36_code
def y_K_write : MethodName := ⟨"EveningCloak", "write", "(III)I"⟩
def rm_K_write : Room := { frames := 2, cells := 0, slots := 0, locals := 42 }
theorem cy_K_write : Cy y_K_write c_K_write 4 (some .int) 3 := ⟨lgm 706 (by decide +kernel) rfl, lgm 68 (by decide +kernel) rfl, by decide +kernel, by decide +kernel⟩
theorem im_K_write : Cond.instanceMethod y_K_write ∈ lg := lgm 704 (by decide +kernel) rfl
theorem se_K_write : Cond.selects y_K_write.cls y_K_write y_K_write ∈ lg := lgm 705 (by decide +kernel) rfl
def e_K_write : List Ent := [
  (0, .iload_n 1, 1, 1, .null, 0, 0, 0),
  (1, .invokestatic 207, 3, 4, .null, 0, 0, 0),
  (4, .ifCond .ne 9, 3, 13, .null, 0, 0, 0),
  (7, .aload_n 0, 1, 8, .null, 0, 0, 0),
  (8, .iconst 0, 1, 9, .int 0, 0, 0, 0),
  (9, .invokevirtual 48, 3, 12, .null, 0, 0, 0),
  (12, .ireturn, 1, 13, .null, 0, 0, 0),
  (13, .aload_n 0, 1, 14, .null, 0, 0, 0),
  (14, .getfield 31, 3, 17, .null, 0, 5, 222),
  (17, .iload_n 1, 1, 18, .null, 0, 0, 0),
  (18, .aaload, 1, 19, .null, 0, 0, 0),
  (19, .invokevirtual 217, 3, 22, .null, 0, 0, 0),
  (22, .ifCond .eq 9, 3, 31, .null, 0, 0, 0),
  (25, .aload_n 0, 1, 26, .null, 0, 0, 0),
  (26, .iconst 5, 1, 27, .int 5, 0, 0, 0),
  (27, .invokevirtual 48, 3, 30, .null, 0, 0, 0),
  (30, .ireturn, 1, 31, .null, 0, 0, 0),
  (31, .iload_n 2, 1, 32, .null, 0, 0, 0),
  (32, .iconst 0, 1, 33, .int 0, 0, 0, 0),
  (33, .aload_n 0, 1, 34, .null, 0, 0, 0),
  (34, .getfield 31, 3, 37, .null, 0, 5, 222),
  (37, .iload_n 1, 1, 38, .null, 0, 0, 0),
  (38, .aaload, 1, 39, .null, 0, 0, 0),
  (39, .getfield 214, 3, 42, .null, 3, 1, 207),
  (42, .iconst 1, 1, 43, .int 1, 0, 0, 0),
  (43, .isub, 1, 44, .null, 0, 0, 0),
  (44, .invokestatic 40, 3, 47, .null, 0, 0, 0),
  (47, .ifCond .ne 9, 3, 56, .null, 0, 0, 0),
  (50, .aload_n 0, 1, 51, .null, 0, 0, 0),
  (51, .iconst 0, 1, 52, .int 0, 0, 0, 0),
  (52, .invokevirtual 48, 3, 55, .null, 0, 0, 0),
  (55, .ireturn, 1, 56, .null, 0, 0, 0),
  (56, .aload_n 0, 1, 57, .null, 0, 0, 0),
  (57, .getfield 31, 3, 60, .null, 0, 5, 222),
  (60, .iload_n 1, 1, 61, .null, 0, 0, 0),
  (61, .aaload, 1, 62, .null, 0, 0, 0),
  (62, .iload_n 2, 1, 63, .null, 0, 0, 0),
  (63, .iload_n 3, 1, 64, .null, 0, 0, 0),
  (64, .invokevirtual 221, 3, 67, .null, 0, 0, 0),
  (67, .iconst 1, 1, 68, .int 1, 0, 0, 0),
  (68, .ireturn, 1, 69, .null, 0, 0, 0)]
set_option maxRecDepth 100000 in
theorem ek_K_write : e_K_write.all (eok 0 c_K_write) = true := by decide +kernel
def F_K_write_0 (t : Nat) (x1 : Int32) (x2 : Int32) (x3 : Int32) (w : A_W) : Option (Int32 × A_W) :=
  (F_K_isSheet x1 w).bind fun p1 =>
  if p1.1 = 0 then
    (ob p1.2 t 0).bind fun o22 =>
    (F_K_finding t 0 p1.2).bind fun p21 =>
    some (p21.1, p21.2)
  else
    (gr p1.2 t 0 5).bind fun a3 =>
    (ra p1.2 a3 x1).bind fun a4 =>
    (ob p1.2 a4 3).bind fun o6 =>
    (F_S_isMissing a4 p1.2).bind fun p5 =>
    if p5.1 = 0 then
      (gr p5.2 t 0 5).bind fun a8 =>
      (ra p5.2 a8 x1).bind fun a9 =>
      (gi p5.2 a9 3 1).bind fun v10 =>
      (F_K_within x2 0 (v10 - 1) p5.2).bind fun p11 =>
      if p11.1 = 0 then
        (ob p11.2 t 0).bind fun o18 =>
        (F_K_finding t 0 p11.2).bind fun p17 =>
        some (p17.1, p17.2)
      else
        (gr p11.2 t 0 5).bind fun a13 =>
        (ra p11.2 a13 x1).bind fun a14 =>
        (ob p11.2 a14 3).bind fun o16 =>
        (F_S_put a14 x2 x3 p11.2).bind fun p15 =>
        some (1, p15)
    else
      (ob p5.2 t 0).bind fun o20 =>
      (F_K_finding t 5 p5.2).bind fun p19 =>
      some (p19.1, p19.2)
set_option maxHeartbeats 4000000 in
set_option maxRecDepth 100000 in
theorem s_K_write_0 {G : Gx} {X : Cx} {res : Int32 × A_W} (K : Ok G X 0 c_K_write 4 (some .int) rm_K_write) (hQ : QQ G X (some (.int res.1)) res.2 0 0) (t : Nat) (x1 : Int32) (x2 : Int32) (x3 : Int32) (w : A_W) (h : F_K_write_0 t x1 x2 x3 w = some res) : Sm G X w 0 0 [some (.ref t), some (.int x1), some (.int x2), some (.int x3)] [] 0 := by
  unfold F_K_write_0 at h
  refine Sm_run K ek_K_write 0 1 rfl ?_
  obtain ⟨p1, e_p1, h⟩ := Option.bind_eq_some_iff.mp h
  refine Sm_callS K (eok_i (eo ek_K_write (i := 1) rfl) rfl) cy_K_isSheet st_K_isSheet (lgm 508 (by decide +kernel) rfl) ⟨Nat.le_of_ble_eq_true rfl, Nat.le_of_ble_eq_true rfl⟩ (as := [.int x1]) (st := []) rfl rfl rfl (Nat.le_of_ble_eq_true rfl) ⟨Nat.le_of_ble_eq_true rfl, Nat.le_of_ble_eq_true rfl⟩ (cn_K_isSheet e_p1) ?_
  refine Sm_eq (st1 := .int p1.1 :: []) (nc1 := 0) (ns1 := 0) rfl rfl rfl ?_
  refine Sm_if_ne K (eo ek_K_write (i := 2) rfl) (fun c2 => ?_) (fun c2 => ?_)
  · rw [if_neg c2] at h
    refine Sm_run K ek_K_write 7 1 rfl ?_
    obtain ⟨a3, e_a3, h⟩ := Option.bind_eq_some_iff.mp h
    refine Sm_gr K (eo ek_K_write (i := 8) rfl) e_a3 ?_
    refine Sm_run K ek_K_write 9 1 rfl ?_
    obtain ⟨a4, e_a4, h⟩ := Option.bind_eq_some_iff.mp h
    refine Sm_ra K (eok_i (eo ek_K_write (i := 10) rfl) rfl) e_a4 ?_
    obtain ⟨o6, e_o6, h⟩ := Option.bind_eq_some_iff.mp h
    obtain ⟨p5, e_p5, h⟩ := Option.bind_eq_some_iff.mp h
    refine Sm_callV K (eok_i (eo ek_K_write (i := 11) rfl) rfl) cy_S_isMissing im_S_isMissing se_S_isMissing (lgm 511 (by decide +kernel) rfl) ⟨Nat.le_of_ble_eq_true rfl, Nat.le_of_ble_eq_true rfl⟩ (as := []) (b := a4) (st := []) (ob_e e_o6) (by decide) rfl rfl rfl rfl (Nat.le_of_ble_eq_true rfl) ⟨Nat.le_of_ble_eq_true rfl, Nat.le_of_ble_eq_true rfl⟩ (cn_S_isMissing e_p5) ?_
    refine Sm_eq (st1 := .int p5.1 :: []) (nc1 := 0) (ns1 := 0) rfl rfl rfl ?_
    refine Sm_if_eq K (eo ek_K_write (i := 12) rfl) (fun c7 => ?_) (fun c7 => ?_)
    · rw [if_pos c7] at h
      refine Sm_run K ek_K_write 17 3 rfl ?_
      obtain ⟨a8, e_a8, h⟩ := Option.bind_eq_some_iff.mp h
      refine Sm_gr K (eo ek_K_write (i := 20) rfl) e_a8 ?_
      refine Sm_run K ek_K_write 21 1 rfl ?_
      obtain ⟨a9, e_a9, h⟩ := Option.bind_eq_some_iff.mp h
      refine Sm_ra K (eok_i (eo ek_K_write (i := 22) rfl) rfl) e_a9 ?_
      obtain ⟨v10, e_v10, h⟩ := Option.bind_eq_some_iff.mp h
      refine Sm_gi K (eo ek_K_write (i := 23) rfl) e_v10 ?_
      refine Sm_run K ek_K_write 24 2 rfl ?_
      obtain ⟨p11, e_p11, h⟩ := Option.bind_eq_some_iff.mp h
      refine Sm_callS K (eok_i (eo ek_K_write (i := 26) rfl) rfl) cy_K_within st_K_within (lgm 243 (by decide +kernel) rfl) ⟨Nat.le_of_ble_eq_true rfl, Nat.le_of_ble_eq_true rfl⟩ (as := [.int x2, .int 0, .int (v10 - 1)]) (st := []) rfl rfl rfl (Nat.le_of_ble_eq_true rfl) ⟨Nat.le_of_ble_eq_true rfl, Nat.le_of_ble_eq_true rfl⟩ (cn_K_within e_p11) ?_
      refine Sm_eq (st1 := .int p11.1 :: []) (nc1 := 0) (ns1 := 0) rfl rfl rfl ?_
      refine Sm_if_ne K (eo ek_K_write (i := 27) rfl) (fun c12 => ?_) (fun c12 => ?_)
      · rw [if_neg c12] at h
        refine Sm_run K ek_K_write 32 1 rfl ?_
        obtain ⟨a13, e_a13, h⟩ := Option.bind_eq_some_iff.mp h
        refine Sm_gr K (eo ek_K_write (i := 33) rfl) e_a13 ?_
        refine Sm_run K ek_K_write 34 1 rfl ?_
        obtain ⟨a14, e_a14, h⟩ := Option.bind_eq_some_iff.mp h
        refine Sm_ra K (eok_i (eo ek_K_write (i := 35) rfl) rfl) e_a14 ?_
        refine Sm_run K ek_K_write 36 2 rfl ?_
        obtain ⟨o16, e_o16, h⟩ := Option.bind_eq_some_iff.mp h
        obtain ⟨p15, e_p15, h⟩ := Option.bind_eq_some_iff.mp h
        refine Sm_callV K (eok_i (eo ek_K_write (i := 38) rfl) rfl) cy_S_put im_S_put se_S_put (lgm 707 (by decide +kernel) rfl) ⟨Nat.le_of_ble_eq_true rfl, Nat.le_of_ble_eq_true rfl⟩ (as := [.int x2, .int x3]) (b := a14) (st := []) (ob_e e_o16) (by decide) rfl rfl rfl rfl (Nat.le_of_ble_eq_true rfl) ⟨Nat.le_of_ble_eq_true rfl, Nat.le_of_ble_eq_true rfl⟩ (cn_S_put e_p15) ?_
        refine Sm_eq (st1 := []) (nc1 := 0) (ns1 := 0) rfl rfl rfl ?_
        refine Sm_run K ek_K_write 39 1 rfl ?_
        obtain rfl := Option.some.inj h
        exact Sm_reti K hQ (eok_i (eo ek_K_write (i := 40) rfl) rfl)
      · rw [if_pos c12] at h
        refine Sm_run K ek_K_write 28 2 rfl ?_
        obtain ⟨o18, e_o18, h⟩ := Option.bind_eq_some_iff.mp h
        obtain ⟨p17, e_p17, h⟩ := Option.bind_eq_some_iff.mp h
        refine Sm_callV K (eok_i (eo ek_K_write (i := 30) rfl) rfl) cy_K_finding im_K_finding se_K_finding (lgm 249 (by decide +kernel) rfl) ⟨Nat.le_of_ble_eq_true rfl, Nat.le_of_ble_eq_true rfl⟩ (as := [.int 0]) (b := t) (st := []) (ob_e e_o18) (by decide) rfl rfl rfl rfl (Nat.le_of_ble_eq_true rfl) ⟨Nat.le_of_ble_eq_true rfl, Nat.le_of_ble_eq_true rfl⟩ (cn_K_finding e_p17) ?_
        refine Sm_eq (st1 := .int p17.1 :: []) (nc1 := 0) (ns1 := 0) rfl rfl rfl ?_
        obtain rfl := Option.some.inj h
        exact Sm_reti K hQ (eok_i (eo ek_K_write (i := 31) rfl) rfl)
    · rw [if_neg c7] at h
      refine Sm_run K ek_K_write 13 2 rfl ?_
      obtain ⟨o20, e_o20, h⟩ := Option.bind_eq_some_iff.mp h
      obtain ⟨p19, e_p19, h⟩ := Option.bind_eq_some_iff.mp h
      refine Sm_callV K (eok_i (eo ek_K_write (i := 15) rfl) rfl) cy_K_finding im_K_finding se_K_finding (lgm 249 (by decide +kernel) rfl) ⟨Nat.le_of_ble_eq_true rfl, Nat.le_of_ble_eq_true rfl⟩ (as := [.int 5]) (b := t) (st := []) (ob_e e_o20) (by decide) rfl rfl rfl rfl (Nat.le_of_ble_eq_true rfl) ⟨Nat.le_of_ble_eq_true rfl, Nat.le_of_ble_eq_true rfl⟩ (cn_K_finding e_p19) ?_
      refine Sm_eq (st1 := .int p19.1 :: []) (nc1 := 0) (ns1 := 0) rfl rfl rfl ?_
      obtain rfl := Option.some.inj h
      exact Sm_reti K hQ (eok_i (eo ek_K_write (i := 16) rfl) rfl)
  · rw [if_pos c2] at h
    refine Sm_run K ek_K_write 3 2 rfl ?_
    obtain ⟨o22, e_o22, h⟩ := Option.bind_eq_some_iff.mp h
    obtain ⟨p21, e_p21, h⟩ := Option.bind_eq_some_iff.mp h
    refine Sm_callV K (eok_i (eo ek_K_write (i := 5) rfl) rfl) cy_K_finding im_K_finding se_K_finding (lgm 249 (by decide +kernel) rfl) ⟨Nat.le_of_ble_eq_true rfl, Nat.le_of_ble_eq_true rfl⟩ (as := [.int 0]) (b := t) (st := []) (ob_e e_o22) (by decide) rfl rfl rfl rfl (Nat.le_of_ble_eq_true rfl) ⟨Nat.le_of_ble_eq_true rfl, Nat.le_of_ble_eq_true rfl⟩ (cn_K_finding e_p21) ?_
    refine Sm_eq (st1 := .int p21.1 :: []) (nc1 := 0) (ns1 := 0) rfl rfl rfl ?_
    obtain rfl := Option.some.inj h
    exact Sm_reti K hQ (eok_i (eo ek_K_write (i := 6) rfl) rfl)
def F_K_write (t : Nat) (x1 : Int32) (x2 : Int32) (x3 : Int32) (w : A_W) : Option (Int32 × A_W) := F_K_write_0 t x1 x2 x3 w
theorem cn_K_write {G : Gx} {t : Nat} {x1 : Int32} {x2 : Int32} {x3 : Int32} {w : A_W} {res : Int32 × A_W} (h : F_K_write t x1 x2 x3 w = some res) : Cn G y_K_write c_K_write 4 (some .int) rm_K_write [.ref t, .int x1, .int x2, .int x3] w (some (.int res.1)) res.2 :=
  Cn_of (own := 0) cy_K_write rfl rfl (Nat.le_of_ble_eq_true rfl) rfl (fun X K _ hQ => Sm_le (leR_s (leR_s (leR_s (leR_s leR_nil)))) (s_K_write_0 K hQ _ _ _ _ _ h))
/-! EveningCloak$Sheet.hasRun(II)Z -/
abbrev c_S_hasRun : ByteArray := prog_4_method_5_code
def y_S_hasRun : MethodName := ⟨"EveningCloak$Sheet", "hasRun", "(II)Z"⟩
def rm_S_hasRun : Room := { frames := 0, cells := 0, slots := 0, locals := 0 }
theorem cy_S_hasRun : Cy y_S_hasRun c_S_hasRun 3 (some .boolean) 2 := ⟨lgm 718 (by decide +kernel) rfl, lgm 72 (by decide +kernel) rfl, by decide +kernel, by decide +kernel⟩
theorem im_S_hasRun : Cond.instanceMethod y_S_hasRun ∈ lg := lgm 716 (by decide +kernel) rfl
theorem se_S_hasRun : Cond.selects y_S_hasRun.cls y_S_hasRun y_S_hasRun ∈ lg := lgm 717 (by decide +kernel) rfl
def e_S_hasRun : List Ent := [
  (0, .iload_n 1, 1, 1, .null, 0, 0, 0),
  (1, .ifCond .lt 29, 3, 30, .null, 0, 0, 0),
  (4, .iload_n 2, 1, 5, .null, 0, 0, 0),
  (5, .ifCond .lt 25, 3, 30, .null, 0, 0, 0),
  (8, .iload_n 1, 1, 9, .null, 0, 0, 0),
  (9, .aload_n 0, 1, 10, .null, 0, 0, 0),
  (10, .getfield 19, 3, 13, .null, 3, 1, 206),
  (13, .if_icmp .gt 17, 3, 30, .null, 0, 0, 0),
  (16, .iload_n 2, 1, 17, .null, 0, 0, 0),
  (17, .aload_n 0, 1, 18, .null, 0, 0, 0),
  (18, .getfield 19, 3, 21, .null, 3, 1, 206),
  (21, .iload_n 1, 1, 22, .null, 0, 0, 0),
  (22, .isub, 1, 23, .null, 0, 0, 0),
  (23, .if_icmp .gt 7, 3, 30, .null, 0, 0, 0),
  (26, .iconst 1, 1, 27, .int 1, 0, 0, 0),
  (27, .goto 4, 3, 31, .null, 0, 0, 0),
  (30, .iconst 0, 1, 31, .int 0, 0, 0, 0),
  (31, .ireturn, 1, 32, .null, 0, 0, 0)]
set_option maxRecDepth 100000 in
theorem ek_S_hasRun : e_S_hasRun.all (eok 3 c_S_hasRun) = true := by decide +kernel
def F_S_hasRun_31 (y0 : Int32) (w : A_W) : Option (Int32 × A_W) :=
  (bz y0).bind fun b1 =>
  some (b1, w)
def F_S_hasRun_30 (w : A_W) : Option (Int32 × A_W) :=
  F_S_hasRun_31 0 w
def F_S_hasRun_0 (t : Nat) (x1 : Int32) (x2 : Int32) (w : A_W) : Option (Int32 × A_W) :=
  if x1 < 0 then
    F_S_hasRun_30 w
  else
    if x2 < 0 then
      F_S_hasRun_30 w
    else
      (gi w t 3 1).bind fun v3 =>
      if v3 < x1 then
        F_S_hasRun_30 w
      else
        (gi w t 3 1).bind fun v5 =>
        if (v5 - x1) < x2 then
          F_S_hasRun_30 w
        else
          F_S_hasRun_31 1 w
set_option maxHeartbeats 4000000 in
set_option maxRecDepth 100000 in
theorem s_S_hasRun_31 {G : Gx} {X : Cx} {res : Int32 × A_W} (K : Ok G X 3 c_S_hasRun 3 (some .boolean) rm_S_hasRun) (hQ : QQ G X (some (.int res.1)) res.2 0 0) (y0 : Int32) (w : A_W) (h : F_S_hasRun_31 y0 w = some res) : Sm G X w 0 0 [none, none, none] [.int y0] 31 := by
  unfold F_S_hasRun_31 at h
  obtain ⟨b1, e_b1, h⟩ := Option.bind_eq_some_iff.mp h
  obtain rfl := Option.some.inj h
  exact Sm_retz K e_b1 hQ (eok_i (eo ek_S_hasRun (i := 17) rfl) rfl)
set_option maxHeartbeats 4000000 in
set_option maxRecDepth 100000 in
theorem s_S_hasRun_30 {G : Gx} {X : Cx} {res : Int32 × A_W} (K : Ok G X 3 c_S_hasRun 3 (some .boolean) rm_S_hasRun) (hQ : QQ G X (some (.int res.1)) res.2 0 0) (w : A_W) (h : F_S_hasRun_30 w = some res) : Sm G X w 0 0 [none, none, none] [] 30 := by
  unfold F_S_hasRun_30 at h
  refine Sm_run K ek_S_hasRun 16 1 rfl ?_
  exact Sm_le (leR_n (leR_n (leR_n leR_nil))) (s_S_hasRun_31 K hQ _ _ h)
set_option maxHeartbeats 4000000 in
set_option maxRecDepth 100000 in
theorem s_S_hasRun_0 {G : Gx} {X : Cx} {res : Int32 × A_W} (K : Ok G X 3 c_S_hasRun 3 (some .boolean) rm_S_hasRun) (hQ : QQ G X (some (.int res.1)) res.2 0 0) (t : Nat) (x1 : Int32) (x2 : Int32) (w : A_W) (h : F_S_hasRun_0 t x1 x2 w = some res) : Sm G X w 0 0 [some (.ref t), some (.int x1), some (.int x2)] [] 0 := by
  unfold F_S_hasRun_0 at h
  refine Sm_run K ek_S_hasRun 0 1 rfl ?_
  refine Sm_if_lt K (eo ek_S_hasRun (i := 1) rfl) (fun c1 => ?_) (fun c1 => ?_)
  · rw [if_pos c1] at h
    exact Sm_le (leR_n (leR_n (leR_n leR_nil))) (s_S_hasRun_30 K hQ _ h)
  · rw [if_neg c1] at h
    refine Sm_run K ek_S_hasRun 2 1 rfl ?_
    refine Sm_if_lt K (eo ek_S_hasRun (i := 3) rfl) (fun c2 => ?_) (fun c2 => ?_)
    · rw [if_pos c2] at h
      exact Sm_le (leR_n (leR_n (leR_n leR_nil))) (s_S_hasRun_30 K hQ _ h)
    · rw [if_neg c2] at h
      refine Sm_run K ek_S_hasRun 4 2 rfl ?_
      obtain ⟨v3, e_v3, h⟩ := Option.bind_eq_some_iff.mp h
      refine Sm_gi K (eo ek_S_hasRun (i := 6) rfl) e_v3 ?_
      refine Sm_ic_gt K (eo ek_S_hasRun (i := 7) rfl) (fun c4 => ?_) (fun c4 => ?_)
      · rw [if_pos c4] at h
        exact Sm_le (leR_n (leR_n (leR_n leR_nil))) (s_S_hasRun_30 K hQ _ h)
      · rw [if_neg c4] at h
        refine Sm_run K ek_S_hasRun 8 2 rfl ?_
        obtain ⟨v5, e_v5, h⟩ := Option.bind_eq_some_iff.mp h
        refine Sm_gi K (eo ek_S_hasRun (i := 10) rfl) e_v5 ?_
        refine Sm_run K ek_S_hasRun 11 2 rfl ?_
        refine Sm_ic_gt K (eo ek_S_hasRun (i := 13) rfl) (fun c6 => ?_) (fun c6 => ?_)
        · rw [if_pos c6] at h
          exact Sm_le (leR_n (leR_n (leR_n leR_nil))) (s_S_hasRun_30 K hQ _ h)
        · rw [if_neg c6] at h
          refine Sm_run K ek_S_hasRun 14 2 rfl ?_
          exact Sm_le (leR_n (leR_n (leR_n leR_nil))) (s_S_hasRun_31 K hQ _ _ h)
def F_S_hasRun (t : Nat) (x1 : Int32) (x2 : Int32) (w : A_W) : Option (Int32 × A_W) := F_S_hasRun_0 t x1 x2 w
theorem cn_S_hasRun {G : Gx} {t : Nat} {x1 : Int32} {x2 : Int32} {w : A_W} {res : Int32 × A_W} (h : F_S_hasRun t x1 x2 w = some res) : Cn G y_S_hasRun c_S_hasRun 3 (some .boolean) rm_S_hasRun [.ref t, .int x1, .int x2] w (some (.int res.1)) res.2 :=
  Cn_of (own := 3) cy_S_hasRun rfl rfl (Nat.le_of_ble_eq_true rfl) rfl (fun X K _ hQ => Sm_le (leR_s (leR_s (leR_s leR_nil))) (s_S_hasRun_0 K hQ _ _ _ _ h))
/-! EveningCloak.copy(IIIII)I -/
abbrev c_K_copy : ByteArray := prog_1_method_37_code
def y_K_copy : MethodName := ⟨"EveningCloak", "copy", "(IIIII)I"⟩
def rm_K_copy : Room := { frames := 2, cells := 0, slots := 0, locals := 54 }
theorem cy_K_copy : Cy y_K_copy c_K_copy 6 (some .int) 5 := ⟨lgm 714 (by decide +kernel) rfl, lgm 68 (by decide +kernel) rfl, by decide +kernel, by decide +kernel⟩
theorem im_K_copy : Cond.instanceMethod y_K_copy ∈ lg := lgm 712 (by decide +kernel) rfl
theorem se_K_copy : Cond.selects y_K_copy.cls y_K_copy y_K_copy ∈ lg := lgm 713 (by decide +kernel) rfl
def e_K_copy : List Ent := [
  (0, .iload_n 1, 1, 1, .null, 0, 0, 0),
  (1, .invokestatic 207, 3, 4, .null, 0, 0, 0),
  (4, .ifCond .eq 10, 3, 14, .null, 0, 0, 0),
  (7, .iload_n 3, 1, 8, .null, 0, 0, 0),
  (8, .invokestatic 207, 3, 11, .null, 0, 0, 0),
  (11, .ifCond .ne 9, 3, 20, .null, 0, 0, 0),
  (14, .aload_n 0, 1, 15, .null, 0, 0, 0),
  (15, .iconst 0, 1, 16, .int 0, 0, 0, 0),
  (16, .invokevirtual 48, 3, 19, .null, 0, 0, 0),
  (19, .ireturn, 1, 20, .null, 0, 0, 0),
  (20, .aload_n 0, 1, 21, .null, 0, 0, 0),
  (21, .getfield 31, 3, 24, .null, 0, 5, 222),
  (24, .iload_n 1, 1, 25, .null, 0, 0, 0),
  (25, .aaload, 1, 26, .null, 0, 0, 0),
  (26, .invokevirtual 217, 3, 29, .null, 0, 0, 0),
  (29, .ifCond .ne 15, 3, 44, .null, 0, 0, 0),
  (32, .aload_n 0, 1, 33, .null, 0, 0, 0),
  (33, .getfield 31, 3, 36, .null, 0, 5, 222),
  (36, .iload_n 3, 1, 37, .null, 0, 0, 0),
  (37, .aaload, 1, 38, .null, 0, 0, 0),
  (38, .invokevirtual 217, 3, 41, .null, 0, 0, 0),
  (41, .ifCond .eq 9, 3, 50, .null, 0, 0, 0),
  (44, .aload_n 0, 1, 45, .null, 0, 0, 0),
  (45, .iconst 5, 1, 46, .int 5, 0, 0, 0),
  (46, .invokevirtual 48, 3, 49, .null, 0, 0, 0),
  (49, .ireturn, 1, 50, .null, 0, 0, 0),
  (50, .aload_n 0, 1, 51, .null, 0, 0, 0),
  (51, .getfield 31, 3, 54, .null, 0, 5, 222),
  (54, .iload_n 1, 1, 55, .null, 0, 0, 0),
  (55, .aaload, 1, 56, .null, 0, 0, 0),
  (56, .getfield 224, 3, 59, .null, 3, 0, 205),
  (59, .aload_n 0, 1, 60, .null, 0, 0, 0),
  (60, .getfield 31, 3, 63, .null, 0, 5, 222),
  (63, .iload_n 3, 1, 64, .null, 0, 0, 0),
  (64, .aaload, 1, 65, .null, 0, 0, 0),
  (65, .getfield 224, 3, 68, .null, 3, 0, 205),
  (68, .if_icmp .eq 9, 3, 77, .null, 0, 0, 0),
  (71, .aload_n 0, 1, 72, .null, 0, 0, 0),
  (72, .iconst 2, 1, 73, .int 2, 0, 0, 0),
  (73, .invokevirtual 48, 3, 76, .null, 0, 0, 0),
  (76, .ireturn, 1, 77, .null, 0, 0, 0),
  (77, .aload_n 0, 1, 78, .null, 0, 0, 0),
  (78, .getfield 31, 3, 81, .null, 0, 5, 222),
  (81, .iload_n 1, 1, 82, .null, 0, 0, 0),
  (82, .aaload, 1, 83, .null, 0, 0, 0),
  (83, .iload_n 2, 1, 84, .null, 0, 0, 0),
  (84, .iload 5, 2, 86, .null, 0, 0, 0),
  (86, .invokevirtual 227, 3, 89, .null, 0, 0, 0),
  (89, .ifCond .eq 19, 3, 108, .null, 0, 0, 0),
  (92, .aload_n 0, 1, 93, .null, 0, 0, 0),
  (93, .getfield 31, 3, 96, .null, 0, 5, 222),
  (96, .iload_n 3, 1, 97, .null, 0, 0, 0),
  (97, .aaload, 1, 98, .null, 0, 0, 0),
  (98, .iload 4, 2, 100, .null, 0, 0, 0),
  (100, .iload 5, 2, 102, .null, 0, 0, 0),
  (102, .invokevirtual 227, 3, 105, .null, 0, 0, 0),
  (105, .ifCond .ne 9, 3, 114, .null, 0, 0, 0),
  (108, .aload_n 0, 1, 109, .null, 0, 0, 0),
  (109, .iconst 0, 1, 110, .int 0, 0, 0, 0),
  (110, .invokevirtual 48, 3, 113, .null, 0, 0, 0),
  (113, .ireturn, 1, 114, .null, 0, 0, 0),
  (114, .aload_n 0, 1, 115, .null, 0, 0, 0),
  (115, .getfield 31, 3, 118, .null, 0, 5, 222),
  (118, .iload_n 1, 1, 119, .null, 0, 0, 0),
  (119, .aaload, 1, 120, .null, 0, 0, 0),
  (120, .getfield 230, 3, 123, .null, 3, 2, 209),
  (123, .iload_n 2, 1, 124, .null, 0, 0, 0),
  (124, .aload_n 0, 1, 125, .null, 0, 0, 0),
  (125, .getfield 31, 3, 128, .null, 0, 5, 222),
  (128, .iload_n 3, 1, 129, .null, 0, 0, 0),
  (129, .aaload, 1, 130, .null, 0, 0, 0),
  (130, .getfield 230, 3, 133, .null, 3, 2, 209),
  (133, .iload 4, 2, 135, .null, 0, 0, 0),
  (135, .iload 5, 2, 137, .null, 0, 0, 0),
  (137, .invokestatic 233, 3, 140, .null, 0, 0, 0),
  (140, .iload 5, 2, 142, .null, 0, 0, 0),
  (142, .ireturn, 1, 143, .null, 0, 0, 0)]
set_option maxRecDepth 100000 in
theorem ek_K_copy : e_K_copy.all (eok 0 c_K_copy) = true := by decide +kernel
def F_K_copy_14 (t : Nat) (w : A_W) : Option (Int32 × A_W) :=
  (ob w t 0).bind fun o2 =>
  (F_K_finding t 0 w).bind fun p1 =>
  some (p1.1, p1.2)
def F_K_copy_44 (t : Nat) (w : A_W) : Option (Int32 × A_W) :=
  (ob w t 0).bind fun o2 =>
  (F_K_finding t 5 w).bind fun p1 =>
  some (p1.1, p1.2)
def F_K_copy_108 (t : Nat) (w : A_W) : Option (Int32 × A_W) :=
  (ob w t 0).bind fun o2 =>
  (F_K_finding t 0 w).bind fun p1 =>
  some (p1.1, p1.2)
def F_K_copy_0 (t : Nat) (x1 : Int32) (x2 : Int32) (x3 : Int32) (x4 : Int32) (x5 : Int32) (w : A_W) : Option (Int32 × A_W) :=
  (F_K_isSheet x1 w).bind fun p1 =>
  if p1.1 = 0 then
    F_K_copy_14 t p1.2
  else
    (F_K_isSheet x3 p1.2).bind fun p3 =>
    if p3.1 = 0 then
      F_K_copy_14 t p3.2
    else
      (gr p3.2 t 0 5).bind fun a5 =>
      (ra p3.2 a5 x1).bind fun a6 =>
      (ob p3.2 a6 3).bind fun o8 =>
      (F_S_isMissing a6 p3.2).bind fun p7 =>
      if p7.1 = 0 then
        (gr p7.2 t 0 5).bind fun a10 =>
        (ra p7.2 a10 x3).bind fun a11 =>
        (ob p7.2 a11 3).bind fun o13 =>
        (F_S_isMissing a11 p7.2).bind fun p12 =>
        if p12.1 = 0 then
          (gr p12.2 t 0 5).bind fun a15 =>
          (ra p12.2 a15 x1).bind fun a16 =>
          (gi p12.2 a16 3 0).bind fun v17 =>
          (gr p12.2 t 0 5).bind fun a18 =>
          (ra p12.2 a18 x3).bind fun a19 =>
          (gi p12.2 a19 3 0).bind fun v20 =>
          if v17 = v20 then
            (gr p12.2 t 0 5).bind fun a22 =>
            (ra p12.2 a22 x1).bind fun a23 =>
            (ob p12.2 a23 3).bind fun o25 =>
            (F_S_hasRun a23 x2 x5 p12.2).bind fun p24 =>
            if p24.1 = 0 then
              F_K_copy_108 t p24.2
            else
              (gr p24.2 t 0 5).bind fun a27 =>
              (ra p24.2 a27 x3).bind fun a28 =>
              (ob p24.2 a28 3).bind fun o30 =>
              (F_S_hasRun a28 x4 x5 p24.2).bind fun p29 =>
              if p29.1 = 0 then
                F_K_copy_108 t p29.2
              else
                (gr p29.2 t 0 5).bind fun a32 =>
                (ra p29.2 a32 x1).bind fun a33 =>
                (gr p29.2 a33 3 2).bind fun a34 =>
                (gr p29.2 t 0 5).bind fun a35 =>
                (ra p29.2 a35 x3).bind fun a36 =>
                (gr p29.2 a36 3 2).bind fun a37 =>
                (cp p29.2 a34 x2 a37 x4 x5).bind fun w38 =>
                some (x5, w38)
          else
            (ob p12.2 t 0).bind fun o40 =>
            (F_K_finding t 2 p12.2).bind fun p39 =>
            some (p39.1, p39.2)
        else
          F_K_copy_44 t p12.2
      else
        F_K_copy_44 t p7.2
set_option maxHeartbeats 4000000 in
set_option maxRecDepth 100000 in
theorem s_K_copy_14 {G : Gx} {X : Cx} {res : Int32 × A_W} (K : Ok G X 0 c_K_copy 6 (some .int) rm_K_copy) (hQ : QQ G X (some (.int res.1)) res.2 0 0) (t : Nat) (w : A_W) (h : F_K_copy_14 t w = some res) : Sm G X w 0 0 [some (.ref t), none, none, none, none, none] [] 14 := by
  unfold F_K_copy_14 at h
  refine Sm_run K ek_K_copy 6 2 rfl ?_
  obtain ⟨o2, e_o2, h⟩ := Option.bind_eq_some_iff.mp h
  obtain ⟨p1, e_p1, h⟩ := Option.bind_eq_some_iff.mp h
  refine Sm_callV K (eok_i (eo ek_K_copy (i := 8) rfl) rfl) cy_K_finding im_K_finding se_K_finding (lgm 249 (by decide +kernel) rfl) ⟨Nat.le_of_ble_eq_true rfl, Nat.le_of_ble_eq_true rfl⟩ (as := [.int 0]) (b := t) (st := []) (ob_e e_o2) (by decide) rfl rfl rfl rfl (Nat.le_of_ble_eq_true rfl) ⟨Nat.le_of_ble_eq_true rfl, Nat.le_of_ble_eq_true rfl⟩ (cn_K_finding e_p1) ?_
  refine Sm_eq (st1 := .int p1.1 :: []) (nc1 := 0) (ns1 := 0) rfl rfl rfl ?_
  obtain rfl := Option.some.inj h
  exact Sm_reti K hQ (eok_i (eo ek_K_copy (i := 9) rfl) rfl)
set_option maxHeartbeats 4000000 in
set_option maxRecDepth 100000 in
theorem s_K_copy_44 {G : Gx} {X : Cx} {res : Int32 × A_W} (K : Ok G X 0 c_K_copy 6 (some .int) rm_K_copy) (hQ : QQ G X (some (.int res.1)) res.2 0 0) (t : Nat) (w : A_W) (h : F_K_copy_44 t w = some res) : Sm G X w 0 0 [some (.ref t), none, none, none, none, none] [] 44 := by
  unfold F_K_copy_44 at h
  refine Sm_run K ek_K_copy 22 2 rfl ?_
  obtain ⟨o2, e_o2, h⟩ := Option.bind_eq_some_iff.mp h
  obtain ⟨p1, e_p1, h⟩ := Option.bind_eq_some_iff.mp h
  refine Sm_callV K (eok_i (eo ek_K_copy (i := 24) rfl) rfl) cy_K_finding im_K_finding se_K_finding (lgm 249 (by decide +kernel) rfl) ⟨Nat.le_of_ble_eq_true rfl, Nat.le_of_ble_eq_true rfl⟩ (as := [.int 5]) (b := t) (st := []) (ob_e e_o2) (by decide) rfl rfl rfl rfl (Nat.le_of_ble_eq_true rfl) ⟨Nat.le_of_ble_eq_true rfl, Nat.le_of_ble_eq_true rfl⟩ (cn_K_finding e_p1) ?_
  refine Sm_eq (st1 := .int p1.1 :: []) (nc1 := 0) (ns1 := 0) rfl rfl rfl ?_
  obtain rfl := Option.some.inj h
  exact Sm_reti K hQ (eok_i (eo ek_K_copy (i := 25) rfl) rfl)
set_option maxHeartbeats 4000000 in
set_option maxRecDepth 100000 in
theorem s_K_copy_108 {G : Gx} {X : Cx} {res : Int32 × A_W} (K : Ok G X 0 c_K_copy 6 (some .int) rm_K_copy) (hQ : QQ G X (some (.int res.1)) res.2 0 0) (t : Nat) (w : A_W) (h : F_K_copy_108 t w = some res) : Sm G X w 0 0 [some (.ref t), none, none, none, none, none] [] 108 := by
  unfold F_K_copy_108 at h
  refine Sm_run K ek_K_copy 57 2 rfl ?_
  obtain ⟨o2, e_o2, h⟩ := Option.bind_eq_some_iff.mp h
  obtain ⟨p1, e_p1, h⟩ := Option.bind_eq_some_iff.mp h
  refine Sm_callV K (eok_i (eo ek_K_copy (i := 59) rfl) rfl) cy_K_finding im_K_finding se_K_finding (lgm 249 (by decide +kernel) rfl) ⟨Nat.le_of_ble_eq_true rfl, Nat.le_of_ble_eq_true rfl⟩ (as := [.int 0]) (b := t) (st := []) (ob_e e_o2) (by decide) rfl rfl rfl rfl (Nat.le_of_ble_eq_true rfl) ⟨Nat.le_of_ble_eq_true rfl, Nat.le_of_ble_eq_true rfl⟩ (cn_K_finding e_p1) ?_
  refine Sm_eq (st1 := .int p1.1 :: []) (nc1 := 0) (ns1 := 0) rfl rfl rfl ?_
  obtain rfl := Option.some.inj h
  exact Sm_reti K hQ (eok_i (eo ek_K_copy (i := 60) rfl) rfl)
set_option maxHeartbeats 4000000 in
set_option maxRecDepth 100000 in
theorem s_K_copy_0 {G : Gx} {X : Cx} {res : Int32 × A_W} (K : Ok G X 0 c_K_copy 6 (some .int) rm_K_copy) (hQ : QQ G X (some (.int res.1)) res.2 0 0) (t : Nat) (x1 : Int32) (x2 : Int32) (x3 : Int32) (x4 : Int32) (x5 : Int32) (w : A_W) (h : F_K_copy_0 t x1 x2 x3 x4 x5 w = some res) : Sm G X w 0 0 [some (.ref t), some (.int x1), some (.int x2), some (.int x3), some (.int x4), some (.int x5)] [] 0 := by
  unfold F_K_copy_0 at h
  refine Sm_run K ek_K_copy 0 1 rfl ?_
  obtain ⟨p1, e_p1, h⟩ := Option.bind_eq_some_iff.mp h
  refine Sm_callS K (eok_i (eo ek_K_copy (i := 1) rfl) rfl) cy_K_isSheet st_K_isSheet (lgm 508 (by decide +kernel) rfl) ⟨Nat.le_of_ble_eq_true rfl, Nat.le_of_ble_eq_true rfl⟩ (as := [.int x1]) (st := []) rfl rfl rfl (Nat.le_of_ble_eq_true rfl) ⟨Nat.le_of_ble_eq_true rfl, Nat.le_of_ble_eq_true rfl⟩ (cn_K_isSheet e_p1) ?_
  refine Sm_eq (st1 := .int p1.1 :: []) (nc1 := 0) (ns1 := 0) rfl rfl rfl ?_
  refine Sm_if_eq K (eo ek_K_copy (i := 2) rfl) (fun c2 => ?_) (fun c2 => ?_)
  · rw [if_pos c2] at h
    exact Sm_le (leR_s (leR_n (leR_n (leR_n (leR_n (leR_n leR_nil)))))) (s_K_copy_14 K hQ _ _ h)
  · rw [if_neg c2] at h
    refine Sm_run K ek_K_copy 3 1 rfl ?_
    obtain ⟨p3, e_p3, h⟩ := Option.bind_eq_some_iff.mp h
    refine Sm_callS K (eok_i (eo ek_K_copy (i := 4) rfl) rfl) cy_K_isSheet st_K_isSheet (lgm 508 (by decide +kernel) rfl) ⟨Nat.le_of_ble_eq_true rfl, Nat.le_of_ble_eq_true rfl⟩ (as := [.int x3]) (st := []) rfl rfl rfl (Nat.le_of_ble_eq_true rfl) ⟨Nat.le_of_ble_eq_true rfl, Nat.le_of_ble_eq_true rfl⟩ (cn_K_isSheet e_p3) ?_
    refine Sm_eq (st1 := .int p3.1 :: []) (nc1 := 0) (ns1 := 0) rfl rfl rfl ?_
    refine Sm_if_ne K (eo ek_K_copy (i := 5) rfl) (fun c4 => ?_) (fun c4 => ?_)
    · rw [if_neg c4] at h
      refine Sm_run K ek_K_copy 10 1 rfl ?_
      obtain ⟨a5, e_a5, h⟩ := Option.bind_eq_some_iff.mp h
      refine Sm_gr K (eo ek_K_copy (i := 11) rfl) e_a5 ?_
      refine Sm_run K ek_K_copy 12 1 rfl ?_
      obtain ⟨a6, e_a6, h⟩ := Option.bind_eq_some_iff.mp h
      refine Sm_ra K (eok_i (eo ek_K_copy (i := 13) rfl) rfl) e_a6 ?_
      obtain ⟨o8, e_o8, h⟩ := Option.bind_eq_some_iff.mp h
      obtain ⟨p7, e_p7, h⟩ := Option.bind_eq_some_iff.mp h
      refine Sm_callV K (eok_i (eo ek_K_copy (i := 14) rfl) rfl) cy_S_isMissing im_S_isMissing se_S_isMissing (lgm 511 (by decide +kernel) rfl) ⟨Nat.le_of_ble_eq_true rfl, Nat.le_of_ble_eq_true rfl⟩ (as := []) (b := a6) (st := []) (ob_e e_o8) (by decide) rfl rfl rfl rfl (Nat.le_of_ble_eq_true rfl) ⟨Nat.le_of_ble_eq_true rfl, Nat.le_of_ble_eq_true rfl⟩ (cn_S_isMissing e_p7) ?_
      refine Sm_eq (st1 := .int p7.1 :: []) (nc1 := 0) (ns1 := 0) rfl rfl rfl ?_
      refine Sm_if_ne K (eo ek_K_copy (i := 15) rfl) (fun c9 => ?_) (fun c9 => ?_)
      · rw [if_neg c9] at h
        exact Sm_le (leR_s (leR_n (leR_n (leR_n (leR_n (leR_n leR_nil)))))) (s_K_copy_44 K hQ _ _ h)
      · rw [if_pos c9] at h
        refine Sm_run K ek_K_copy 16 1 rfl ?_
        obtain ⟨a10, e_a10, h⟩ := Option.bind_eq_some_iff.mp h
        refine Sm_gr K (eo ek_K_copy (i := 17) rfl) e_a10 ?_
        refine Sm_run K ek_K_copy 18 1 rfl ?_
        obtain ⟨a11, e_a11, h⟩ := Option.bind_eq_some_iff.mp h
        refine Sm_ra K (eok_i (eo ek_K_copy (i := 19) rfl) rfl) e_a11 ?_
        obtain ⟨o13, e_o13, h⟩ := Option.bind_eq_some_iff.mp h
        obtain ⟨p12, e_p12, h⟩ := Option.bind_eq_some_iff.mp h
        refine Sm_callV K (eok_i (eo ek_K_copy (i := 20) rfl) rfl) cy_S_isMissing im_S_isMissing se_S_isMissing (lgm 511 (by decide +kernel) rfl) ⟨Nat.le_of_ble_eq_true rfl, Nat.le_of_ble_eq_true rfl⟩ (as := []) (b := a11) (st := []) (ob_e e_o13) (by decide) rfl rfl rfl rfl (Nat.le_of_ble_eq_true rfl) ⟨Nat.le_of_ble_eq_true rfl, Nat.le_of_ble_eq_true rfl⟩ (cn_S_isMissing e_p12) ?_
        refine Sm_eq (st1 := .int p12.1 :: []) (nc1 := 0) (ns1 := 0) rfl rfl rfl ?_
        refine Sm_if_eq K (eo ek_K_copy (i := 21) rfl) (fun c14 => ?_) (fun c14 => ?_)
        · rw [if_pos c14] at h
          refine Sm_run K ek_K_copy 26 1 rfl ?_
          obtain ⟨a15, e_a15, h⟩ := Option.bind_eq_some_iff.mp h
          refine Sm_gr K (eo ek_K_copy (i := 27) rfl) e_a15 ?_
          refine Sm_run K ek_K_copy 28 1 rfl ?_
          obtain ⟨a16, e_a16, h⟩ := Option.bind_eq_some_iff.mp h
          refine Sm_ra K (eok_i (eo ek_K_copy (i := 29) rfl) rfl) e_a16 ?_
          obtain ⟨v17, e_v17, h⟩ := Option.bind_eq_some_iff.mp h
          refine Sm_gi K (eo ek_K_copy (i := 30) rfl) e_v17 ?_
          refine Sm_run K ek_K_copy 31 1 rfl ?_
          obtain ⟨a18, e_a18, h⟩ := Option.bind_eq_some_iff.mp h
          refine Sm_gr K (eo ek_K_copy (i := 32) rfl) e_a18 ?_
          refine Sm_run K ek_K_copy 33 1 rfl ?_
          obtain ⟨a19, e_a19, h⟩ := Option.bind_eq_some_iff.mp h
          refine Sm_ra K (eok_i (eo ek_K_copy (i := 34) rfl) rfl) e_a19 ?_
          obtain ⟨v20, e_v20, h⟩ := Option.bind_eq_some_iff.mp h
          refine Sm_gi K (eo ek_K_copy (i := 35) rfl) e_v20 ?_
          refine Sm_ic_eq K (eo ek_K_copy (i := 36) rfl) (fun c21 => ?_) (fun c21 => ?_)
          · rw [if_pos c21] at h
            refine Sm_run K ek_K_copy 41 1 rfl ?_
            obtain ⟨a22, e_a22, h⟩ := Option.bind_eq_some_iff.mp h
            refine Sm_gr K (eo ek_K_copy (i := 42) rfl) e_a22 ?_
            refine Sm_run K ek_K_copy 43 1 rfl ?_
            obtain ⟨a23, e_a23, h⟩ := Option.bind_eq_some_iff.mp h
            refine Sm_ra K (eok_i (eo ek_K_copy (i := 44) rfl) rfl) e_a23 ?_
            refine Sm_run K ek_K_copy 45 2 rfl ?_
            obtain ⟨o25, e_o25, h⟩ := Option.bind_eq_some_iff.mp h
            obtain ⟨p24, e_p24, h⟩ := Option.bind_eq_some_iff.mp h
            refine Sm_callV K (eok_i (eo ek_K_copy (i := 47) rfl) rfl) cy_S_hasRun im_S_hasRun se_S_hasRun (lgm 715 (by decide +kernel) rfl) ⟨Nat.le_of_ble_eq_true rfl, Nat.le_of_ble_eq_true rfl⟩ (as := [.int x2, .int x5]) (b := a23) (st := []) (ob_e e_o25) (by decide) rfl rfl rfl rfl (Nat.le_of_ble_eq_true rfl) ⟨Nat.le_of_ble_eq_true rfl, Nat.le_of_ble_eq_true rfl⟩ (cn_S_hasRun e_p24) ?_
            refine Sm_eq (st1 := .int p24.1 :: []) (nc1 := 0) (ns1 := 0) rfl rfl rfl ?_
            refine Sm_if_eq K (eo ek_K_copy (i := 48) rfl) (fun c26 => ?_) (fun c26 => ?_)
            · rw [if_pos c26] at h
              exact Sm_le (leR_s (leR_n (leR_n (leR_n (leR_n (leR_n leR_nil)))))) (s_K_copy_108 K hQ _ _ h)
            · rw [if_neg c26] at h
              refine Sm_run K ek_K_copy 49 1 rfl ?_
              obtain ⟨a27, e_a27, h⟩ := Option.bind_eq_some_iff.mp h
              refine Sm_gr K (eo ek_K_copy (i := 50) rfl) e_a27 ?_
              refine Sm_run K ek_K_copy 51 1 rfl ?_
              obtain ⟨a28, e_a28, h⟩ := Option.bind_eq_some_iff.mp h
              refine Sm_ra K (eok_i (eo ek_K_copy (i := 52) rfl) rfl) e_a28 ?_
              refine Sm_run K ek_K_copy 53 2 rfl ?_
              obtain ⟨o30, e_o30, h⟩ := Option.bind_eq_some_iff.mp h
              obtain ⟨p29, e_p29, h⟩ := Option.bind_eq_some_iff.mp h
              refine Sm_callV K (eok_i (eo ek_K_copy (i := 55) rfl) rfl) cy_S_hasRun im_S_hasRun se_S_hasRun (lgm 715 (by decide +kernel) rfl) ⟨Nat.le_of_ble_eq_true rfl, Nat.le_of_ble_eq_true rfl⟩ (as := [.int x4, .int x5]) (b := a28) (st := []) (ob_e e_o30) (by decide) rfl rfl rfl rfl (Nat.le_of_ble_eq_true rfl) ⟨Nat.le_of_ble_eq_true rfl, Nat.le_of_ble_eq_true rfl⟩ (cn_S_hasRun e_p29) ?_
              refine Sm_eq (st1 := .int p29.1 :: []) (nc1 := 0) (ns1 := 0) rfl rfl rfl ?_
              refine Sm_if_ne K (eo ek_K_copy (i := 56) rfl) (fun c31 => ?_) (fun c31 => ?_)
              · rw [if_neg c31] at h
                refine Sm_run K ek_K_copy 61 1 rfl ?_
                obtain ⟨a32, e_a32, h⟩ := Option.bind_eq_some_iff.mp h
                refine Sm_gr K (eo ek_K_copy (i := 62) rfl) e_a32 ?_
                refine Sm_run K ek_K_copy 63 1 rfl ?_
                obtain ⟨a33, e_a33, h⟩ := Option.bind_eq_some_iff.mp h
                refine Sm_ra K (eok_i (eo ek_K_copy (i := 64) rfl) rfl) e_a33 ?_
                obtain ⟨a34, e_a34, h⟩ := Option.bind_eq_some_iff.mp h
                refine Sm_gr K (eo ek_K_copy (i := 65) rfl) e_a34 ?_
                refine Sm_run K ek_K_copy 66 2 rfl ?_
                obtain ⟨a35, e_a35, h⟩ := Option.bind_eq_some_iff.mp h
                refine Sm_gr K (eo ek_K_copy (i := 68) rfl) e_a35 ?_
                refine Sm_run K ek_K_copy 69 1 rfl ?_
                obtain ⟨a36, e_a36, h⟩ := Option.bind_eq_some_iff.mp h
                refine Sm_ra K (eok_i (eo ek_K_copy (i := 70) rfl) rfl) e_a36 ?_
                obtain ⟨a37, e_a37, h⟩ := Option.bind_eq_some_iff.mp h
                refine Sm_gr K (eo ek_K_copy (i := 71) rfl) e_a37 ?_
                refine Sm_run K ek_K_copy 72 2 rfl ?_
                obtain ⟨w38, e_w38, h⟩ := Option.bind_eq_some_iff.mp h
                refine Sm_cp K (eok_i (eo ek_K_copy (i := 74) rfl) rfl) (lgm 719 (by decide +kernel) rfl) ac_nat ac_st ac_in rfl e_w38 (Nat.le_of_ble_eq_true rfl) (Nat.le_of_ble_eq_true rfl) ?_
                refine Sm_run K ek_K_copy 75 1 rfl ?_
                obtain rfl := Option.some.inj h
                exact Sm_reti K hQ (eok_i (eo ek_K_copy (i := 76) rfl) rfl)
              · rw [if_pos c31] at h
                exact Sm_le (leR_s (leR_n (leR_n (leR_n (leR_n (leR_n leR_nil)))))) (s_K_copy_108 K hQ _ _ h)
          · rw [if_neg c21] at h
            refine Sm_run K ek_K_copy 37 2 rfl ?_
            obtain ⟨o40, e_o40, h⟩ := Option.bind_eq_some_iff.mp h
            obtain ⟨p39, e_p39, h⟩ := Option.bind_eq_some_iff.mp h
            refine Sm_callV K (eok_i (eo ek_K_copy (i := 39) rfl) rfl) cy_K_finding im_K_finding se_K_finding (lgm 249 (by decide +kernel) rfl) ⟨Nat.le_of_ble_eq_true rfl, Nat.le_of_ble_eq_true rfl⟩ (as := [.int 2]) (b := t) (st := []) (ob_e e_o40) (by decide) rfl rfl rfl rfl (Nat.le_of_ble_eq_true rfl) ⟨Nat.le_of_ble_eq_true rfl, Nat.le_of_ble_eq_true rfl⟩ (cn_K_finding e_p39) ?_
            refine Sm_eq (st1 := .int p39.1 :: []) (nc1 := 0) (ns1 := 0) rfl rfl rfl ?_
            obtain rfl := Option.some.inj h
            exact Sm_reti K hQ (eok_i (eo ek_K_copy (i := 40) rfl) rfl)
        · rw [if_neg c14] at h
          exact Sm_le (leR_s (leR_n (leR_n (leR_n (leR_n (leR_n leR_nil)))))) (s_K_copy_44 K hQ _ _ h)
    · rw [if_pos c4] at h
      exact Sm_le (leR_s (leR_n (leR_n (leR_n (leR_n (leR_n leR_nil)))))) (s_K_copy_14 K hQ _ _ h)
def F_K_copy (t : Nat) (x1 : Int32) (x2 : Int32) (x3 : Int32) (x4 : Int32) (x5 : Int32) (w : A_W) : Option (Int32 × A_W) := F_K_copy_0 t x1 x2 x3 x4 x5 w
theorem cn_K_copy {G : Gx} {t : Nat} {x1 : Int32} {x2 : Int32} {x3 : Int32} {x4 : Int32} {x5 : Int32} {w : A_W} {res : Int32 × A_W} (h : F_K_copy t x1 x2 x3 x4 x5 w = some res) : Cn G y_K_copy c_K_copy 6 (some .int) rm_K_copy [.ref t, .int x1, .int x2, .int x3, .int x4, .int x5] w (some (.int res.1)) res.2 :=
  Cn_of (own := 0) cy_K_copy rfl rfl (Nat.le_of_ble_eq_true rfl) rfl (fun X K _ hQ => Sm_le (leR_s (leR_s (leR_s (leR_s (leR_s (leR_s leR_nil)))))) (s_K_copy_0 K hQ _ _ _ _ _ _ _ h))
