/-! THE CLASS READS A TEXT -/
def CX (w : A_W) (f q : Nat → Int32) : A_W := dW (rW w 13 f) q
theorem rW_len (w : A_W) (t : Nat) (g : Nat → Int32) : (rW w t g).length = w.length := by unfold rW; exact List.length_mapIdx
theorem rW_dW (w : A_W) (q g : Nat → Int32) {t : Nat} (ht : t + 11 < 37) : rW (dW w q) t g = dW (rW w t g) q := by
  refine List.ext_getElem? fun k => ?_
  by_cases e : k = 37
  · subst e
    rw [rW_at (by omega)]
    unfold dW
    rw [List.getElem?_set, List.getElem?_set, if_pos rfl, if_pos rfl, rW_len]
  · rw [dW_at e, rW_g, dW_at e, rW_g]
theorem td_y {b : Bool} (h : b = true) : ¬ tdI b = 0 := by subst h; decide
theorem td_n {b : Bool} (h : ¬ b = true) : tdI b = 0 := by cases b with
  | false => rfl
  | true => exact absurd rfl h
section ADR
variable (f : Nat → Int32) (d : Nat) (k x1 x2 x3 x4 x5 : Int32) (o : Option Nat)
theorem adD_v1 : adD f d k x1 x2 x3 x4 x5 (12 + 6 * d) = x1 := by unfold adD; rw [upd_n (by omega), upd_n (by omega), upd_n (by omega), upd_n (by omega), upd_s]
theorem adD_v2 : adD f d k x1 x2 x3 x4 x5 (13 + 6 * d) = x2 := by unfold adD; rw [upd_n (by omega), upd_n (by omega), upd_n (by omega), upd_s]
theorem adD_v3 : adD f d k x1 x2 x3 x4 x5 (14 + 6 * d) = x3 := by unfold adD; rw [upd_n (by omega), upd_n (by omega), upd_s]
theorem adD_v4 : adD f d k x1 x2 x3 x4 x5 (15 + 6 * d) = x4 := by unfold adD; rw [upd_n (by omega), upd_s]
theorem adD_r1 : upd (adD f d k x1 x2 x3 x4 x5) (rix 3 d) (oV o (adD f d k x1 x2 x3 x4 x5 (rix 3 d))) = adD f d k (oV o x1) x2 x3 x4 x5 := by
  rw [show rix 3 d = 12 + 6 * d from rfl, adD_v1, adD_1]
theorem adD_r2 : upd (adD f d k x1 x2 x3 x4 x5) (rix 4 d) (oV o (adD f d k x1 x2 x3 x4 x5 (rix 4 d))) = adD f d k x1 (oV o x2) x3 x4 x5 := by
  rw [show rix 4 d = 13 + 6 * d from rfl, adD_v2, adD_2]
theorem adD_r3 : upd (adD f d k x1 x2 x3 x4 x5) (rix 5 d) (oV o (adD f d k x1 x2 x3 x4 x5 (rix 5 d))) = adD f d k x1 x2 (oV o x3) x4 x5 := by
  rw [show rix 5 d = 14 + 6 * d from rfl, adD_v3, adD_3]
theorem adD_r4 : upd (adD f d k x1 x2 x3 x4 x5) (rix 6 d) (oV o (adD f d k x1 x2 x3 x4 x5 (rix 6 d))) = adD f d k x1 x2 x3 (oV o x4) x5 := by
  rw [show rix 6 d = 15 + 6 * d from rfl, adD_v4, adD_4]
end ADR
section PPT
variable {a : Nat → Nat} {n k lo hi : Nat} {T : Tk}
theorem pPart_t (c : T.kd = k) (c2 : nq (tk a n T.e) lo hi) : pPart a n k lo hi T = (true, some (tk a n T.e).v, tk a n (tk a n T.e).e) := by unfold pPart; rw [if_pos c, if_pos c2]
theorem pPart_f (c : T.kd = k) (c2 : ¬ nq (tk a n T.e) lo hi) : pPart a n k lo hi T = (false, none, tk a n T.e) := by unfold pPart; rw [if_pos c, if_neg c2]
theorem pPart_n (c : ¬ T.kd = k) : pPart a n k lo hi T = (true, none, T) := by unfold pPart; rw [if_neg c]
end PPT
/-- what the class has done when it has read r -/
def CO (w : A_W) (n : Nat) (r : Bool × (Nat → Int32) × Tk) (o : Option (Int32 × A_W)) : Prop := ∃ f' q', o = some (tdI r.1, CX w f' q') ∧ QT n q' r.2.2 ∧ (r.1 = true → f' = r.2.1)
theorem CO_t {w : A_W} {n : Nat} {f' q' : Nat → Int32} {U : Tk} {o : Option (Int32 × A_W)} (ho : o = some (1, CX w f' q')) (hq : QT n q' U) : CO w n (true, f', U) o := ⟨f', q', ho, hq, fun _ => rfl⟩
theorem CO_f {w : A_W} {n : Nat} {f' q' g : Nat → Int32} {U : Tk} {o : Option (Int32 × A_W)} (ho : o = some (0, CX w f' q')) (hq : QT n q' U) : CO w n (false, g, U) o := ⟨f', q', ho, hq, fun z => absurd z (by decide : ¬ false = true)⟩
theorem CO_r {w : A_W} {n : Nat} {f' q' : Nat → Int32} {r : Bool × (Nat → Int32) × Tk} {o : Option (Int32 × A_W)} (ho : o = some (tdI r.1, CX w f' q')) (hq : QT n q' r.2.2) (hf : r.1 = true → f' = r.2.1) : CO w n r o := ⟨f', q', ho, hq, hf⟩
theorem bI_n {p : Prop} [Decidable p] (h : ¬ p) : bI p = 0 := by rw [bI_0]; exact h
section KTX
variable {w : A_W} {g2 : Nat → Int32} {a : Nat → Nat} {n : Nat}
theorem TB_rW (B : TB w a) (f : Nat → Int32) : TB (rW w 13 f) a := ⟨by rw [rW_len]; exact B.1, by obtain ⟨tp, h1, h2⟩ := B.2; exact ⟨tp, by rw [rW_at (by omega)]; exact h1, h2⟩⟩
theorem CX_RC (R : RC w 13 g2) (f q : Nat → Int32) : RC (CX w f q) 13 f := RC_dW (R.set f) (by omega) q
theorem CX_set (f q g : Nat → Int32) : rW (CX w f q) 13 g = CX w g q := by unfold CX; rw [rW_dW _ _ _ (by omega), rW_rW]
theorem CX_D (B : TB w a) (f q : Nat → Int32) : (CX w f q)[37]? = some (dobj q) := (TB_rW B f).d q
theorem CX_step (B : TB w a) (hn : n ≤ 120) {f q : Nat → Int32} {T : Tk} (hv : VT a n T) (hq : QT n q T) : ∃ q', F_D_step 37 (CX w f q) = some (CX w f q') ∧ QT n q' (tk a n T.e) := D_step (TB_rW B f) hn hv.bd.2.1 hq.1 hq.2.2.2.1
theorem CX_word (B : TB w a) (hn : n ≤ 120) {j k : Nat} (hj : j < 15) (hk : sg j = k) {f q : Nat → Int32} {T : Tk} (hv : VT a n T) (hq : QT n q T) : F_D_isWord 37 (sA j) (CX w f q) = some (bI (T.kd = k), CX w f q) := by
  subst hk
  have h := D_isWord (TB_rW B f) hn hj hq hv.bd.1 hv.bd.2.1 hv.bd.2.2.2.2
  have e : tdI (wq a T (sg j)) = bI (T.kd = sg j) := by
    have hk := hv.kd_ (sg_15 j hj)
    by_cases c : T.kd = sg j
    · rw [hk.mp c]; unfold bI; rw [if_pos c]; rfl
    · rw [td_n (fun z => c (hk.mpr z))]; unfold bI; rw [if_neg c]
  rw [← e]
  exact h
theorem CX_number (B : TB w a) {lo hi : Nat} {f q : Nat → Int32} {T : Tk} (hv : VT a n T) (hq : QT n q T) (h : hi ≤ 9999) (hl : lo ≤ hi) {x y : Int32} (hx : x = nI lo) (hy : y = nI hi) : F_D_isNumber 37 x y (CX w f q) = some (bI (nq T lo hi), CX w f q) := D_isNumber (TB_rW B f) hq hv.bd.2.2.2.2 h hl hx hy
theorem QT_v {q : Nat → Int32} {T : Tk} (hq : QT n q T) {lo hi : Nat} (c : nq T lo hi) (h : hi ≤ 9999) : q 4 = nI T.v := by
  have h1 := c.2.2
  rw [hq.2.2.2.2 c.1, Nat.min_eq_left (by omega)]
theorem CX_part (R : RC w 13 g2) (B : TB w a) (hn : n ≤ 120) {j k kk d hi : Nat} (hj : j < 15) (hs : sg j = k) (h1 : 1 ≤ kk) (h2 : kk ≤ 11) (hd : d < rlen kk) (hh : hi ≤ 9999) {y : Int32} (hy : y = nI hi) {f q : Nat → Int32} {T : Tk} (hv : VT a n T) (hq : QT n q T) : ∃ q', F_D_readPart 37 (sA j) (13 + kk) (nI d) y (CX w f q) = some (tdI (pPart a n k 0 hi T).1, CX w (upd f (rix kk d) (oV (pPart a n k 0 hi T).2.1 (f (rix kk d)))) q') ∧ QT n q' (pPart a n k 0 hi T).2.2 := by
  unfold F_D_readPart F_D_readPart_0
  rw [D_ob (CX_D B f q), Option.bind_some, CX_word B hn hj hs hv hq, Option.bind_some]
  dsimp only
  by_cases c : T.kd = k
  · obtain ⟨q1, e1, hq1⟩ := CX_step B hn (f := f) hv hq
    have hv1 := hv.nx.1
    rw [if_neg (bI_y c), D_ob (CX_D B f q), Option.bind_some, e1, Option.bind_some, D_ob (CX_D B f q1), Option.bind_some, CX_number B (lo := 0) (hi := hi) (x := 0) (y := y) hv1 hq1 hh (by omega) rfl hy, Option.bind_some]
    dsimp only
    by_cases c2 : nq (tk a n T.e) 0 hi
    · obtain ⟨q2, e2, hq2⟩ := CX_step B hn (f := upd f (rix kk d) (nI (tk a n T.e).v)) hv1 hq1
      rw [if_neg (bI_y c2), D_g5 (CX_D B f q1), Option.bind_some, QT_v hq1 c2 hh, (CX_RC R f q1).wrk h1 h2 hd rfl, Option.bind_some, CX_set, D_ob (CX_D B _ q1), Option.bind_some, e2, Option.bind_some, bz1, pPart_t c c2]
      exact ⟨q2, rfl, hq2⟩
    · rw [if_pos (bI_n c2), bz0, pPart_f c c2]
      refine ⟨q1, ?_, hq1⟩
      show some ((0 : Int32), CX w f q1) = some (tdI false, CX w (upd f (rix kk d) (f (rix kk d))) q1)
      rw [upd_i]; rfl
  · rw [if_pos (bI_n c), bz1, pPart_n c]
    refine ⟨q, ?_, hq⟩
    show some ((1 : Int32), CX w f q) = some (tdI true, CX w (upd f (rix kk d) (f (rix kk d))) q)
    rw [upd_i]; rfl
theorem CX_deposit (R : RC w 13 g2) (B : TB w a) (hn : n ≤ 120) {f q : Nat → Int32} {T : Tk} (hf : Wf f) (hv : VT a n T) (hq : QT n q T) {x : Int32} (hx : x = nI T.kd) : CO w n (depI a n f T) (F_D_readDeposit 37 13 x (CX w f q)) := by
  subst hx
  unfold F_D_readDeposit F_D_readDeposit_0 depI
  obtain ⟨h8, h3⟩ := Wf_dep hf
  rw [(CX_RC R f q).gi3, Option.bind_some, h3]
  by_cases c : dep f < 8
  · obtain ⟨q1, e1, hq1⟩ := CX_step B hn (f := adD f (dep f) (nI T.kd) 0 (nI (10 * dep f)) 0 0 0) hv hq
    have hv1 := hv.nx.1
    rw [if_pos (show nI (dep f) < 8 from nI_lt (b := 8) c (by omega)), if_pos c, (CX_RC R f q).ob_, Option.bind_some, R_addDeposit (CX_RC R f q) hf c, Option.bind_some]
    dsimp only
    rw [CX_set, D_ob (CX_D B _ q), Option.bind_some, e1, Option.bind_some]
    unfold F_D_readDeposit_87 F_D_readDeposit_109
    obtain ⟨q2, e2, hq2⟩ := CX_part R B hn (j := 10) (k := 7) (kk := 3) (d := dep f) (hi := 15) (y := 15) (f := adD f (dep f) (nI T.kd) 0 (nI (10 * dep f)) 0 0 0) (by omega) rfl (by omega) (by omega) c (by omega) rfl hv1 hq1
    have hv2 := (hv1.part 7 0 15).1
    rw [adD_r1] at e2
    unfold dep1
    rw [(CX_RC R _ q1).gr7, Option.bind_some, D_ob (CX_D B _ q1), Option.bind_some, e2, Option.bind_some]
    dsimp only
    by_cases ok1 : (pPart a n 7 0 15 (tk a n T.e)).1 = true
    case neg =>
      rw [if_pos (td_n ok1), if_neg ok1, bz0]
      exact CO_f rfl hq2
    rw [if_neg (td_y ok1), if_pos ok1]
    obtain ⟨q3, e3, hq3⟩ := CX_part R B hn (j := 11) (k := 8) (kk := 4) (d := dep f) (hi := 99) (y := 99) (f := adD f (dep f) (nI T.kd) (oV (pPart a n 7 0 15 (tk a n T.e)).2.1 0) (nI (10 * dep f)) 0 0 0) (by omega) rfl (by omega) (by omega) c (by omega) rfl hv2 hq2
    have hv3 := (hv2.part 8 0 99).1
    rw [adD_r2] at e3
    unfold dep2
    rw [(CX_RC R _ q2).gr8, Option.bind_some, D_ob (CX_D B _ q2), Option.bind_some, e3, Option.bind_some]
    dsimp only
    by_cases ok2 : (pPart a n 8 0 99 (pPart a n 7 0 15 (tk a n T.e)).2.2).1 = true
    case neg =>
      rw [if_pos (td_n ok2), if_neg ok2, bz0]
      exact CO_f rfl hq3
    rw [if_neg (td_y ok2), if_pos ok2]
    obtain ⟨q4, e4, hq4⟩ := CX_part R B hn (j := 12) (k := 9) (kk := 5) (d := dep f) (hi := 9999) (y := 9999) (f := adD f (dep f) (nI T.kd) (oV (pPart a n 7 0 15 (tk a n T.e)).2.1 0) (oV (pPart a n 8 0 99 (pPart a n 7 0 15 (tk a n T.e)).2.2).2.1 (nI (10 * dep f))) 0 0 0) (by omega) rfl (by omega) (by omega) c (by omega) rfl hv3 hq3
    have hv4 := (hv3.part 9 0 9999).1
    rw [adD_r3] at e4
    unfold dep3
    rw [(CX_RC R _ q3).gr9, Option.bind_some, D_ob (CX_D B _ q3), Option.bind_some, e4, Option.bind_some]
    dsimp only
    by_cases ok3 : (pPart a n 9 0 9999 (pPart a n 8 0 99 (pPart a n 7 0 15 (tk a n T.e)).2.2).2.2).1 = true
    case neg =>
      rw [if_pos (td_n ok3), if_neg ok3, bz0]
      exact CO_f rfl hq4
    rw [if_neg (td_y ok3), if_pos ok3]
    obtain ⟨q5, e5, hq5⟩ := CX_part R B hn (j := 13) (k := 10) (kk := 6) (d := dep f) (hi := 99) (y := 99) (f := adD f (dep f) (nI T.kd) (oV (pPart a n 7 0 15 (tk a n T.e)).2.1 0) (oV (pPart a n 8 0 99 (pPart a n 7 0 15 (tk a n T.e)).2.2).2.1 (nI (10 * dep f))) (oV (pPart a n 9 0 9999 (pPart a n 8 0 99 (pPart a n 7 0 15 (tk a n T.e)).2.2).2.2).2.1 0) 0 0) (by omega) rfl (by omega) (by omega) c (by omega) rfl hv4 hq4
    have hv5 := (hv4.part 10 0 99).1
    rw [adD_r4] at e5
    unfold dep4
    rw [(CX_RC R _ q4).gr10, Option.bind_some, D_ob (CX_D B _ q4), Option.bind_some, e5, Option.bind_some]
    dsimp only
    by_cases ok4 : (pPart a n 10 0 99 (pPart a n 9 0 9999 (pPart a n 8 0 99 (pPart a n 7 0 15 (tk a n T.e)).2.2).2.2).2.2).1 = true
    case neg =>
      rw [if_pos (td_n ok4), if_neg ok4, bz0]
      exact CO_f rfl hq5
    rw [if_neg (td_y ok4), if_pos ok4]
    unfold dep5
    rw [D_ob (CX_D B _ q5), Option.bind_some, CX_word B hn (j := 14) (k := 11) (by omega) rfl hv5 hq5, Option.bind_some]
    dsimp only
    by_cases c5 : (pPart a n 10 0 99 (pPart a n 9 0 9999 (pPart a n 8 0 99 (pPart a n 7 0 15 (tk a n T.e)).2.2).2.2).2.2).2.2.kd = 11
    · obtain ⟨q6, e6, hq6⟩ := CX_step B hn (f := adD f (dep f) (nI T.kd) (oV (pPart a n 7 0 15 (tk a n T.e)).2.1 0) (oV (pPart a n 8 0 99 (pPart a n 7 0 15 (tk a n T.e)).2.2).2.1 (nI (10 * dep f))) (oV (pPart a n 9 0 9999 (pPart a n 8 0 99 (pPart a n 7 0 15 (tk a n T.e)).2.2).2.2).2.1 0) (oV (pPart a n 10 0 99 (pPart a n 9 0 9999 (pPart a n 8 0 99 (pPart a n 7 0 15 (tk a n T.e)).2.2).2.2).2.2).2.1 0) 1) hv5 hq5
      rw [if_neg (bI_y c5), if_pos c5, (CX_RC R _ q5).gr11, Option.bind_some, (CX_RC R _ q5).wr_out c rfl, Option.bind_some, CX_set, adD_5, D_ob (CX_D B _ q5), Option.bind_some, e6, Option.bind_some, bz1]
      exact CO_t rfl hq6
    · rw [if_pos (bI_n c5), if_neg c5, bz1]
      exact CO_t rfl hq5
  · rw [if_neg (show ¬ nI (dep f) < 8 from nI_nlt (b := 8) (by omega) (by omega)), if_neg c, bz0]
    exact CO_f rfl hq
theorem CX_girl (R : RC w 13 g2) (B : TB w a) (hn : n ≤ 120) {f q : Nat → Int32} {T : Tk} (hf : Wf f) (hv : VT a n T) (hq : QT n q T) : CO w n (girI a n f T) (F_D_readGirl 37 13 (CX w f q)) := by
  unfold F_D_readGirl F_D_readGirl_0 girI
  obtain ⟨h6, h4⟩ := Wf_grl hf
  rw [(CX_RC R f q).gi4, Option.bind_some, h4]
  by_cases c : grl f < 6
  · obtain ⟨q1, e1, hq1⟩ := CX_step B hn (f := adG f (grl f) 50) hv hq
    have hv1 := hv.nx.1
    rw [if_pos (show nI (grl f) < 6 from nI_lt (b := 6) c (by omega)), if_pos c, (CX_RC R f q).ob_, Option.bind_some, R_addGirl (CX_RC R f q) hf c, Option.bind_some]
    dsimp only
    rw [CX_set, D_ob (CX_D B _ q), Option.bind_some, e1, Option.bind_some, D_ob (CX_D B _ q1), Option.bind_some, CX_word B hn (j := 1) (k := 13) (by omega) rfl hv1 hq1, Option.bind_some]
    dsimp only
    unfold F_D_readGirl_61
    by_cases c1 : (tk a n T.e).kd = 13
    · obtain ⟨q2, e2, hq2⟩ := CX_step B hn (f := adG f (grl f) 50) hv1 hq1
      have hv2 := hv1.nx.1
      rw [if_neg (bI_y c1), D_ob (CX_D B _ q1), Option.bind_some, e2, Option.bind_some, D_ob (CX_D B _ q2), Option.bind_some, CX_number B (lo := 1) (hi := 99) (x := 1) (y := 99) hv2 hq2 (by omega) (by omega) rfl rfl, Option.bind_some]
      dsimp only
      by_cases c2 : nq (tk a n (tk a n T.e).e) 1 99
      · obtain ⟨q3, e3, hq3⟩ := CX_step B hn (f := adG f (grl f) (nI (tk a n (tk a n T.e).e).v)) hv2 hq2
        rw [if_neg (bI_y c2), (CX_RC R _ q2).gr13, Option.bind_some, D_g5 (CX_D B _ q2), Option.bind_some, QT_v hq2 c2 (by omega), (CX_RC R _ q2).wr_hope c rfl, Option.bind_some, CX_set, adG_1, D_ob (CX_D B _ q2), Option.bind_some, e3, Option.bind_some, bz1, pPart_t c1 c2, if_pos (Eq.refl true)]
        exact CO_t rfl hq3
      · rw [if_pos (bI_n c2), bz0, pPart_f c1 c2, if_neg (show ¬ false = true by decide)]
        exact CO_f rfl hq2
    · rw [if_pos (bI_n c1), bz1, pPart_n c1, if_pos (Eq.refl true)]
      exact CO_t rfl hq1
  · rw [if_neg (show ¬ nI (grl f) < 6 from nI_nlt (b := 6) (by omega) (by omega)), if_neg c, bz0]
    exact CO_f rfl hq
theorem CX_stand (R : RC w 13 g2) (B : TB w a) (hn : n ≤ 120) {f q : Nat → Int32} {T : Tk} (hv : VT a n T) (hq : QT n q T) : CO w n (sta1 a n f (tk a n T.e)) (F_D_readStand 37 13 (CX w f q)) := by
  unfold F_D_readStand F_D_readStand_0 sta1
  obtain ⟨q1, e1, hq1⟩ := CX_step B hn (f := f) hv hq
  have hv1 := hv.nx.1
  rw [D_ob (CX_D B f q), Option.bind_some, e1, Option.bind_some, D_ob (CX_D B f q1), Option.bind_some, CX_number B (lo := 0) (hi := 5) (x := 0) (y := 5) hv1 hq1 (by omega) (by omega) rfl rfl, Option.bind_some]
  dsimp only
  by_cases c1 : nq (tk a n T.e) 0 5
  case neg =>
    rw [if_pos (bI_n c1), if_neg c1, bz0]
    exact CO_f rfl hq1
  obtain ⟨q2, e2, hq2⟩ := CX_step B hn (f := f) hv1 hq1
  have hv2 := hv1.nx.1
  unfold sta2
  rw [if_neg (bI_y c1), if_pos c1, D_g5 (CX_D B f q1), Option.bind_some, QT_v hq1 c1 (by omega), D_ob (CX_D B f q1), Option.bind_some, e2, Option.bind_some, D_ob (CX_D B f q2), Option.bind_some, CX_number B (lo := 0) (hi := 5) (x := 0) (y := 5) hv2 hq2 (by omega) (by omega) rfl rfl, Option.bind_some]
  dsimp only
  by_cases c2 : nq (tk a n (tk a n T.e).e) 0 5
  case neg =>
    rw [if_pos (bI_n c2), if_neg c2, bz0]
    exact CO_f rfl hq2
  obtain ⟨q3, e3, hq3⟩ := CX_step B hn (f := f) hv2 hq2
  have hv3 := hv2.nx.1
  unfold sta3
  rw [if_neg (bI_y c2), if_pos c2, D_g5 (CX_D B f q2), Option.bind_some, QT_v hq2 c2 (by omega), D_ob (CX_D B f q2), Option.bind_some, e3, Option.bind_some, D_ob (CX_D B f q3), Option.bind_some, CX_number B (lo := 0) (hi := 15) (x := 0) (y := 15) hv3 hq3 (by omega) (by omega) rfl rfl, Option.bind_some]
  dsimp only
  by_cases c3 : nq (tk a n (tk a n (tk a n T.e).e).e) 0 15
  case neg =>
    rw [if_pos (bI_n c3), if_neg c3, bz0]
    exact CO_f rfl hq3
  have b1 := c1.2.2
  have e5 : (100 : Int32) * nI (tk a n (tk a n T.e).e).v + nI (tk a n (tk a n (tk a n T.e).e).e).v = nI (100 * (tk a n (tk a n T.e).e).v + (tk a n (tk a n (tk a n T.e).e).e).v) := by
    rw [show (100 : Int32) * nI (tk a n (tk a n T.e).e).v = nI (100 * (tk a n (tk a n T.e).e).v) from pk_mul 100 _, nI_add]
  obtain ⟨q4, e4, hq4⟩ := CX_step B hn (f := upd f (5 + (tk a n T.e).v) (nI (100 * (tk a n (tk a n T.e).e).v + (tk a n (tk a n (tk a n T.e).e).e).v))) hv3 hq3
  rw [if_neg (bI_y c3), if_pos c3, (CX_RC R f q3).gr5, Option.bind_some, D_g5 (CX_D B f q3), Option.bind_some, QT_v hq3 c3 (by omega), K_standOf, Option.bind_some]
  dsimp only
  rw [e5, (CX_RC R f q3).wr_list (i := (tk a n T.e).v) (by omega) rfl, Option.bind_some, CX_set, D_ob (CX_D B _ q3), Option.bind_some, e4, Option.bind_some, bz1]
  exact CO_t rfl hq4
theorem D_kindWord : ∀ k, k < 7 → ∀ w : A_W, F_D_kindWord (nI k) w = some (sA (3 + k), w) := by
  intro k hk w
  unfold F_D_kindWord F_D_kindWord_0
  rcases (show k = 0 ∨ k = 1 ∨ k = 2 ∨ k = 3 ∨ k = 4 ∨ k = 5 ∨ k = 6 by omega) with rfl | rfl | rfl | rfl | rfl | rfl | rfl
  · rw [if_pos (by decide)]
  · rw [if_neg (by decide), if_pos (by decide)]
  · rw [if_neg (by decide), if_neg (by decide), if_pos (by decide)]
  · rw [if_neg (by decide), if_neg (by decide), if_neg (by decide), if_pos (by decide)]
  · rw [if_neg (by decide), if_neg (by decide), if_neg (by decide), if_neg (by decide), if_pos (by decide)]
  · rw [if_neg (by decide), if_neg (by decide), if_neg (by decide), if_neg (by decide), if_neg (by decide), if_pos (by decide)]
  · rw [if_neg (by decide), if_neg (by decide), if_neg (by decide), if_neg (by decide), if_neg (by decide), if_neg (by decide)]
theorem sg_kd : ∀ k, k < 7 → sg (3 + k) = k := by decide
theorem CX_kinds (R : RC w 13 g2) (B : TB w a) (hn : n ≤ 120) {f q : Nat → Int32} {T : Tk} (hf : Wf f) (hv : VT a n T) (hq : QT n q T) : ∀ (m j k : Nat), k + j = 7 → j < m → k ≤ T.kd → CO w n (if T.kd ≤ 6 then depI a n f T else (false, f, T)) (F_D_readItem_32 m 37 13 (nI k) (CX w f q)) := by
  intro m
  induction m with
  | zero => intro j k _ hj; exact absurd hj (by omega)
  | succ m ih =>
    intro j k hj hm hk
    rw [F_D_readItem_32]
    cases j with
    | zero =>
      rw [if_pos (show (7 : Int32) ≤ nI k from nI_le (a := 7) (by omega) (by omega)), bz0, if_neg (show ¬ T.kd ≤ 6 by omega)]
      exact CO_f rfl hq
    | succ j =>
      rw [if_neg (show ¬ (7 : Int32) ≤ nI k from nI_ge (b := 7) (by omega) (by omega)), D_kindWord k (by omega), Option.bind_some]
      dsimp only
      rw [D_ob (CX_D B f q), Option.bind_some, CX_word B hn (j := 3 + k) (k := k) (by omega) (sg_kd k (by omega)) hv hq, Option.bind_some]
      dsimp only
      by_cases c : T.kd = k
      · obtain ⟨f1, q1, e1, hq1, hf1⟩ := CX_deposit R B hn hf hv hq (x := nI k) (by rw [c])
        rw [if_neg (bI_y c), D_ob (CX_D B f q), Option.bind_some, e1, Option.bind_some, bz_td, Option.bind_some, if_pos (show T.kd ≤ 6 by omega)]
        exact CO_r rfl hq1 hf1
      · rw [if_pos (bI_n c), nI_1]
        exact ih j (k + 1) (by omega) (by omega) (by omega)
theorem CX_item (R : RC w 13 g2) (B : TB w a) (hn : n ≤ 120) {f q : Nat → Int32} {T : Tk} (hf : Wf f) (hv : VT a n T) (hq : QT n q T) : CO w n (itm a n f T) (F_D_readItem 37 13 (CX w f q)) := by
  unfold F_D_readItem F_D_readItem_0 itm
  rw [D_ob (CX_D B f q), Option.bind_some, CX_word B hn (j := 0) (k := 12) (by omega) rfl hv hq, Option.bind_some]
  dsimp only
  by_cases c1 : T.kd = 12
  · obtain ⟨f1, q1, e1, hq1, hf1⟩ := CX_girl R B hn hf hv hq
    rw [if_neg (bI_y c1), D_ob (CX_D B f q), Option.bind_some, e1, Option.bind_some, bz_td, Option.bind_some, if_neg (show ¬ T.kd ≤ 6 by omega), if_pos c1]
    exact CO_r rfl hq1 hf1
  · rw [if_pos (bI_n c1), D_ob (CX_D B f q), Option.bind_some, CX_word B hn (j := 2) (k := 14) (by omega) rfl hv hq, Option.bind_some]
    dsimp only
    by_cases c2 : T.kd = 14
    · obtain ⟨f1, q1, e1, hq1, hf1⟩ := CX_stand R B hn (f := f) hv hq
      rw [if_neg (bI_y c2), D_ob (CX_D B f q), Option.bind_some, e1, Option.bind_some, bz_td, Option.bind_some, if_neg (show ¬ T.kd ≤ 6 by omega), if_neg c1, if_pos c2]
      exact CO_r rfl hq1 hf1
    · rw [if_pos (bI_n c2), if_neg c1, if_neg c2]
      exact CX_kinds R B hn hf hv hq FU 7 0 (by omega) (by unfold FU; omega) (by omega)
theorem CX_text (R : RC w 13 g2) (B : TB w a) (hn : n ≤ 120) : ∀ (m k i : Nat) (f q : Nat → Int32) (T : Tk), Wf f → VT a n T → QT n q T → i + k = 121 → k < m → ∃ f' q', F_D_readText_11 m 37 13 (nI i) (CX w f q) = some (if (txtR a n k f T i).1 = true then nI (txtR a n k f T i).2.2 else (-1) - nI (txtR a n k f T i).2.2, CX w f' q') ∧ q' 0 = nI n ∧ ((txtR a n k f T i).1 = true → f' = (txtR a n k f T i).2.1) := by
  intro m
  induction m with
  | zero => intro k i f q T _ _ _ _ hk; exact absurd hk (by omega)
  | succ m ih =>
    intro k i f q T hf hv hq hi hm
    rw [F_D_readText_11]
    unfold F_D_readText_58
    cases k with
    | zero =>
      rw [if_pos (show (120 : Int32) < nI i from nI_lt (a := 120) (by omega) (by omega)), D_g3 (CX_D B f q), Option.bind_some, hq.2.2.1, txtR, if_neg (show ¬ false = true by decide)]
      exact ⟨f, q, rfl, hq.1, fun z => absurd z (by decide : ¬ false = true)⟩
    | succ k =>
      obtain ⟨f1, q1, e1, hq1, hf1⟩ := CX_item R B hn hf hv hq
      have hI := itm_ok hf hv
      have hU := hI.1
      rw [if_neg (show ¬ (120 : Int32) < nI i from nI_nlt (a := 120) (by omega) (by omega)), D_ob (CX_D B f q), Option.bind_some, e1, Option.bind_some]
      dsimp only
      by_cases ok : (itm a n f T).1 = true
      case neg =>
        have hr : txtR a n (k + 1) f T i = (false, f, (itm a n f T).2.2.b) := by rw [txtR, if_neg ok]
        rw [if_pos (td_n ok), D_g3 (CX_D B f1 q1), Option.bind_some, hq1.2.2.1, hr, if_neg (show ¬ false = true by decide)]
        exact ⟨f1, q1, rfl, hq1.1, fun z => absurd z (by decide : ¬ false = true)⟩
      obtain ⟨k20, k21, k22, -⟩ := hU.ct_
      have ct4 := hU.bd.2.2.2.2
      have hf2 := hf1 ok
      subst hf2
      rw [if_neg (td_y ok), D_g2 (CX_D B _ q1), Option.bind_some, hq1.2.1]
      by_cases c22 : (itm a n f T).2.2.kd = 22
      · have hr : txtR a n (k + 1) f T i = (true, (itm a n f T).2.1, i) := by rw [txtR, if_pos ok, if_pos c22]
        rw [if_pos (show nI (itm a n f T).2.2.ct = 0 by rw [k22.mp c22]; rfl), hr, if_pos (Eq.refl true)]
        exact ⟨_, q1, rfl, hq1.1, fun _ => rfl⟩
      · rw [if_neg (show ¬ nI (itm a n f T).2.2.ct = 0 from fun z => c22 (k22.mpr ((nI_eq (b := 0) (by omega) (by omega)).mp z))), Option.bind_some]
        by_cases c21 : (itm a n f T).2.2.kd = 21
        · obtain ⟨q2, e2, hq2⟩ := CX_step B hn (f := (itm a n f T).2.1) hU hq1
          have hr : txtR a n (k + 1) f T i = txtR a n k (itm a n f T).2.1 (tk a n (itm a n f T).2.2.e) (i + 1) := by rw [txtR, if_pos ok, if_neg c22, if_pos c21]
          rw [if_pos (show nI (itm a n f T).2.2.ct = 3 by rw [k21.mp c21]; rfl), D_ob (CX_D B _ q1), Option.bind_some, e2, Option.bind_some, nI_1, hr]
          exact ih k (i + 1) _ q2 _ (hI.2.2 ok).1 hU.nx.1 hq2 (by omega) (by omega)
        · have hr : txtR a n (k + 1) f T i = (false, (itm a n f T).2.1, (itm a n f T).2.2.b) := by rw [txtR, if_pos ok, if_neg c22, if_neg c21]
          rw [if_neg (show ¬ nI (itm a n f T).2.2.ct = 3 from fun z => c21 (k21.mpr ((nI_eq (b := 3) (by omega) (by omega)).mp z))), D_g3 (CX_D B _ q1), Option.bind_some, hq1.2.2.1, hr, if_neg (show ¬ false = true by decide)]
          exact ⟨_, q1, rfl, hq1.1, fun z => absurd z (by decide : ¬ false = true)⟩
/-- the class has read the tape -/
theorem CX_readText (R : RC w 13 g2) (B : TB w a) (hn : n ≤ 120) {f q : Nat → Int32} (hf : Wf f) (h0 : q 0 = nI n) : ∃ f' q', F_D_readText 37 13 (CX w f q) = some (if (txtR a n 120 f (tk a n 0) 1).1 = true then nI (txtR a n 120 f (tk a n 0) 1).2.2 else (-1) - nI (txtR a n 120 f (tk a n 0) 1).2.2, CX w f' q') ∧ q' 0 = nI n ∧ ((txtR a n 120 f (tk a n 0) 1).1 = true → f' = (txtR a n 120 f (tk a n 0) 1).2.1) := by
  unfold F_D_readText F_D_readText_0
  have e0 : dW (CX w f q) (upd q 3 0) = CX w f (upd q 3 0) := by unfold CX; rw [dW_dW]
  obtain ⟨q1, e1, hq1⟩ := D_step (TB_rW B f) hn (p := 0) (Nat.zero_le n) (q := upd q 3 0) (by rw [upd_n (by omega)]; exact h0) upd_s
  rw [D_pf (CX_D B f q) (k := 3) (by omega), Option.bind_some, e0, D_ob (CX_D B f (upd q 3 0)), Option.bind_some]
  rw [show F_D_step 37 (CX w f (upd q 3 0)) = some (CX w f q1) from e1, Option.bind_some]
  exact CX_text R B hn FU 120 1 f q1 (tk a n 0) hf ⟨0, Nat.zero_le n, rfl⟩ hq1 (by omega) (by unfold FU; omega)
end KTX
