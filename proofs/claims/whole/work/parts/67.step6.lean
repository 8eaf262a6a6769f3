/-! A DEPOSIT COMES, A GIRL COMES -/
theorem Wf_up3 {f : Nat → Int32} (h : Wf f) {v : Int32} (h1 : (f 3).toInt ≤ v.toInt) (h2 : v.toInt ≤ 8) : Wf (upd f 3 v) := by
  refine ⟨fun j hj hn => ?_, fun j hj => ?_, fun j hj => ?_⟩
  · by_cases e : j = 3
    · subst e
      rw [upd_s]
      have h3 := h.1 3 (by omega) (by omega)
      exact ⟨by omega, h2⟩
    · rw [upd_n e]; exact h.1 j hj hn
  · rw [upd_n (by omega)]; exact h.2.1 j hj
  · have h3 := h.2.2 j hj
    rw [upd_n (by omega), upd_s]; omega
theorem Wf_spot {f : Nat → Int32} (h : Wf f) {i : Nat} (hi : i < 10) {v : Int32} (h1 : -1 ≤ v.toInt) (h2 : v.toInt < (f 3).toInt) : Wf (upd f (77 + i) v) := by
  refine ⟨fun j hj hn => ?_, fun j hj => ?_, fun j hj => ?_⟩
  · rw [upd_n (by omega)]; exact h.1 j hj hn
  · rw [upd_n (by omega)]; exact h.2.1 j hj
  · by_cases e : j = i
    · subst e; rw [upd_s, upd_n (by omega)]; exact ⟨h1, h2⟩
    · rw [upd_n (by omega), upd_n (by omega)]; exact h.2.2 j hj
theorem Wf_item {f : Nat → Int32} (h : Wf f) {d e : Nat} (hd : d < 8) (he : e < 6) {v : Int32} (h1 : 0 ≤ v.toInt) (h2 : v.toInt ≤ itB e) : Wf (upd f (11 + 6 * d + e) v) := Wf_upd h (by omega) (by omega) (fun _ => by rw [hiB_it d hd e he]; exact ⟨h1, h2⟩) (fun _ _ => by omega)
theorem Wf_girl {f : Nat → Int32} (h : Wf f) {d e : Nat} (hd : d < 6) (he : e < 3) {v : Int32} (h1 : 0 ≤ v.toInt) (h2 : v.toInt ≤ grB e) : Wf (upd f (59 + 3 * d + e) v) := Wf_upd h (by omega) (by omega) (fun _ => by rw [hiB_gr d hd e he]; exact ⟨h1, h2⟩) (fun _ _ => by omega)
def adD (f : Nat → Int32) (d : Nat) (k a b c e o : Int32) : Nat → Int32 := upd (upd (upd (upd (upd (upd (upd f 3 (nI (d + 1))) (11 + 6 * d) k) (12 + 6 * d) a) (13 + 6 * d) b) (14 + 6 * d) c) (15 + 6 * d) e) (16 + 6 * d) o
def adG (f : Nat → Int32) (d : Nat) (k : Int32) : Nat → Int32 := upd (upd (upd (upd f 4 (nI (d + 1))) (59 + 3 * d) 0) (60 + 3 * d) k) (61 + 3 * d) 0
theorem adD_Wf {f : Nat → Int32} (h : Wf f) (hd : dep f < 8) {k a b c e o : Int32} (hk : 0 ≤ k.toInt ∧ k.toInt ≤ 6) (ha : 0 ≤ a.toInt ∧ a.toInt ≤ 15) (hb : 0 ≤ b.toInt ∧ b.toInt ≤ 99) (hc : 0 ≤ c.toInt ∧ c.toInt ≤ 9999) (he : 0 ≤ e.toInt ∧ e.toInt ≤ 99) (ho : 0 ≤ o.toInt ∧ o.toInt ≤ 1) : Wf (adD f (dep f) k a b c e o) := by
  unfold adD
  have e3 := (Wf_dep h).2
  have h0 : Wf (upd f 3 (nI (dep f + 1))) := Wf_up3 h (by rw [e3, nI_toInt (by omega), nI_toInt (by omega)]; omega) (by rw [nI_toInt (by omega)]; omega)
  have h1 := Wf_item h0 hd (e := 0) (by omega) hk.1 hk.2
  have h2 := Wf_item h1 hd (e := 1) (by omega) ha.1 ha.2
  have h3 := Wf_item h2 hd (e := 2) (by omega) hb.1 hb.2
  have h4 := Wf_item h3 hd (e := 3) (by omega) hc.1 hc.2
  have h5 := Wf_item h4 hd (e := 4) (by omega) he.1 he.2
  have h6 := Wf_item h5 hd (e := 5) (by omega) ho.1 ho.2
  rw [Nat.add_zero, show 11 + 6 * dep f + 1 = 12 + 6 * dep f by omega, show 11 + 6 * dep f + 2 = 13 + 6 * dep f by omega, show 11 + 6 * dep f + 3 = 14 + 6 * dep f by omega, show 11 + 6 * dep f + 4 = 15 + 6 * dep f by omega, show 11 + 6 * dep f + 5 = 16 + 6 * dep f by omega] at h6
  exact h6
theorem adG_Wf {f : Nat → Int32} (h : Wf f) (hd : grl f < 6) {k : Int32} (hk : 0 ≤ k.toInt ∧ k.toInt ≤ 99) : Wf (adG f (grl f) k) := by
  unfold adG
  have h0 : Wf (upd f 4 (nI (grl f + 1))) := Wf_upd h (by omega) (by omega) (fun _ => by rw [nI_toInt (by omega)]; exact ⟨by omega, by show ((grl f + 1 : Nat) : Int) ≤ 6; omega⟩) (fun _ _ => by omega)
  have h1 := Wf_girl h0 hd (e := 0) (by omega) (v := 0) (by decide) (by decide)
  have h2 := Wf_girl h1 hd (e := 1) (by omega) hk.1 (Int.le_trans hk.2 (by decide))
  have h3 := Wf_girl h2 hd (e := 2) (by omega) (v := 0) (by decide) (by decide)
  rw [Nat.add_zero, show 59 + 3 * grl f + 1 = 60 + 3 * grl f by omega, show 59 + 3 * grl f + 2 = 61 + 3 * grl f by omega] at h3
  exact h3
theorem R_addDeposit {w : A_W} {t : Nat} {g : Nat → Int32} (hR : RC w t g) (hf : Wf g) (hd : dep g < 8) (x y : Int32) : F_R_addDeposit t x y w = some (nI (dep g), rW w t (adD g (dep g) x y (nI (10 * dep g)) 0 0 0)) := by
  unfold F_R_addDeposit F_R_addDeposit_0 adD
  have T : ∀ f, RC (rW w t f) t f := fun f => hR.set f
  have e3 := (Wf_dep hf).2
  have e10 : (10 : Int32) * nI (dep g) = nI (10 * dep g) := pk_mul 10 _
  rw [hR.gi3, Option.bind_some, e3]
  simp only [hR.pf_ (j := 3) (by omega), Option.bind_some, nI_1, (T _).gr6, (T _).wr_kind hd rfl, rW_rW, (T _).gr7, (T _).wr_hanger hd rfl, (T _).gr8, (T _).wr_stub hd rfl, (T _).gr9, (T _).wr_kept hd rfl, (T _).gr10, (T _).wr_worn hd rfl, (T _).gr11, (T _).wr_out hd rfl, e10]
theorem R_addGirl {w : A_W} {t : Nat} {g : Nat → Int32} (hR : RC w t g) (hf : Wf g) (hd : grl g < 6) (x : Int32) : F_R_addGirl t x w = some (nI (grl g), rW w t (adG g (grl g) x)) := by
  unfold F_R_addGirl F_R_addGirl_0 adG
  have T : ∀ f, RC (rW w t f) t f := fun f => hR.set f
  rw [hR.gi4, Option.bind_some, (Wf_grl hf).2]
  simp only [hR.pf_ (j := 4) (by omega), Option.bind_some, nI_1, (T _).gr12, (T _).wr_dream hd rfl, rW_rW, (T _).gr13, (T _).wr_hope hd rfl, (T _).gr14, (T _).wr_met hd rfl]
theorem MM.st0 {w : A_W} {h : Nat → Nat → Int32} {s : Nat → Int32} (hM : MM w h s) (f : Nat → Int32) : MM (mW w 0 f) (hset h 0 f) s := hM.set (by omega) f
theorem M_comes {w : A_W} {h : Nat → Nat → Int32} {s : Nat → Int32} (hM : MM w h s) (hf : Wf (h 0)) (hd : dep (h 0) < 8) (x y z : Int32) : F_M_comes 49 x y z w = some (nI (dep (h 0)), mW w 0 (adD (h 0) (dep (h 0)) x y (if 0 ≤ z then z else nI (10 * dep (h 0))) 0 0 0)) := by
  unfold F_M_comes F_M_comes_0 F_M_comes_51
  have T := hM.st0
  have e3 := (Wf_dep hf).2
  have e10 : (10 : Int32) * nI (dep (h 0)) = nI (10 * dep (h 0)) := pk_mul 10 _
  simp only [hM.gr0, Option.bind_some, hM.rd0 (i := 3) (x := 3) (by omega) rfl, hM.wr0 (i := 3) (x := 3) (by omega) rfl]
  rw [e3]
  simp only [nI_1, (T _).ob_, Option.bind_some, M_put (T _) hd (e := 0) (y := 0) (by omega) rfl rfl, M_put (T _) hd (e := 1) (y := 1) (by omega) rfl rfl, M_put (T _) hd (e := 2) (y := 2) (by omega) rfl rfl, M_put (T _) hd (e := 3) (y := 3) (by omega) rfl rfl, M_put (T _) hd (e := 4) (y := 4) (by omega) rfl rfl, M_put (T _) hd (e := 5) (y := 5) (by omega) rfl rfl, hset_self, mW_mW, e10, Nat.add_zero]
  rw [show 11 + 6 * dep (h 0) + 1 = 12 + 6 * dep (h 0) by omega, show 11 + 6 * dep (h 0) + 2 = 13 + 6 * dep (h 0) by omega, show 11 + 6 * dep (h 0) + 3 = 14 + 6 * dep (h 0) by omega, show 11 + 6 * dep (h 0) + 4 = 15 + 6 * dep (h 0) by omega, show 11 + 6 * dep (h 0) + 5 = 16 + 6 * dep (h 0) by omega]
  unfold adD
  split <;> rfl
theorem M_enters {w : A_W} {h : Nat → Nat → Int32} {s : Nat → Int32} (hM : MM w h s) (hf : Wf (h 0)) (hd : grl (h 0) < 6) (x : Int32) : F_M_enters 49 x w = some (nI (grl (h 0)), mW w 0 (adG (h 0) (grl (h 0)) x)) := by
  unfold F_M_enters F_M_enters_0
  have T := hM.st0
  simp only [hM.gr0, Option.bind_some, hM.rd0 (i := 4) (x := 4) (by omega) rfl, hM.wr0 (i := 4) (x := 4) (by omega) rfl]
  rw [(Wf_grl hf).2]
  simp only [nI_1, (T _).ob_, Option.bind_some, M_lets (T _) hd (e := 0) (y := 0) (by omega) rfl rfl, M_lets (T _) hd (e := 1) (y := 1) (by omega) rfl rfl, M_lets (T _) hd (e := 2) (y := 2) (by omega) rfl rfl, hset_self, mW_mW, Nat.add_zero]
  rw [show 59 + 3 * grl (h 0) + 1 = 60 + 3 * grl (h 0) by omega, show 59 + 3 * grl (h 0) + 2 = 61 + 3 * grl (h 0) by omega]
  rfl
theorem st2 : St2 Rel := by
  intro a1 a2 w ⟨h, s, g2, g3, q, R, G⟩
  by_cases c1 : 0 ≤ a1 ∧ a1 ≤ 6
  · by_cases c2 : 0 ≤ a2 ∧ a2 ≤ 15
    · obtain ⟨d8, e3⟩ := Wf_dep G.1
      by_cases c3 : dep (h 0) < 8
      · obtain ⟨k, -, hk, rfl⟩ := btw (m := 0) (n := 6) rfl rfl (by omega) (by omega) c1
        obtain ⟨l, -, hl, rfl⟩ := btw (m := 0) (n := 15) rfl rfl (by omega) (by omega) c2
        refine SP_row R G (f := adD (h 0) (dep (h 0)) (nI k) (nI l) (nI (10 * dep (h 0))) 0 0 0) ?_ (r1 := nI (dep (h 0))) (r2 := nI (dep (h 0))) ?_ (fun M => ?_) rfl
        · exact adD_Wf G.1 c3 (by rw [nI_toInt (by omega)]; omega) (by rw [nI_toInt (by omega)]; omega) (by rw [nI_toInt (by omega)]; omega) (by decide) (by decide) (by decide)
        · unfold F_K_deposit F_K_deposit_0
          simp only [K_within, K_isHanger, K_isKind, K_isSpot, K_isSheet, R_hasDeposit R.2.2.1, R_hasGirl R.2.2.1, R.kg0, R.kg1, R.kob, R.2.2.1.ob_, Option.bind_some, bI_0]
          rw [if_neg (fun z => z c1), if_neg (fun z => z c2)]
          simp only [K_within, K_isHanger, K_isKind, K_isSpot, K_isSheet, R_hasDeposit R.2.2.1, R_hasGirl R.2.2.1, R.kg0, R.kg1, R.kob, R.2.2.1.ob_, Option.bind_some, bI_0, R.2.2.1.gi3]
          rw [if_pos (by rw [e3]; exact nI_lt (b := 8) c3 (by omega))]
          simp only [K_within, K_isHanger, K_isKind, K_isSpot, K_isSheet, R_hasDeposit R.2.2.1, R_hasGirl R.2.2.1, R.kg0, R.kg1, R.kob, R.2.2.1.ob_, Option.bind_some, bI_0, R_addDeposit R.2.2.1 G.1 c3]
        · unfold F_M_deposit F_M_deposit_0 F_M_deposit_51
          simp only [M_in, M_isHanger, M_isPlace, M_isDeposit M, M_isGirl M, M.ob_, M.gr0, Option.bind_some, bI_0]
          rw [if_neg (fun z => z c1), if_neg (fun z => z c2)]
          simp only [M_in, M_isHanger, M_isPlace, M_isDeposit M, M_isGirl M, M.ob_, M.gr0, Option.bind_some, bI_0, M.rd0 (i := 3) (x := 3) (by omega) rfl]
          rw [if_neg (by rw [e3]; exact fun z => by rw [show (8 : Int32) = nI 8 from rfl, nI_eq (by omega) (by omega)] at z; omega)]
          simp only [M_in, M_isHanger, M_isPlace, M_isDeposit M, M_isGirl M, M.ob_, M.gr0, Option.bind_some, bI_0, M_comes M G.1 c3]
          rw [if_neg (by decide)]
      · refine SP_fd R G (i := 1) (r1 := (-1000001) - 1) (r2 := (-1000002)) ?_ (fun M => ?_) (by decide)
        · unfold F_K_deposit F_K_deposit_0
          simp only [K_within, K_isHanger, K_isKind, K_isSpot, K_isSheet, R_hasDeposit R.2.2.1, R_hasGirl R.2.2.1, R.kg0, R.kg1, R.kob, R.2.2.1.ob_, Option.bind_some, bI_0]
          rw [if_neg (fun z => z c1), if_neg (fun z => z c2)]
          simp only [K_within, K_isHanger, K_isKind, K_isSpot, K_isSheet, R_hasDeposit R.2.2.1, R_hasGirl R.2.2.1, R.kg0, R.kg1, R.kob, R.2.2.1.ob_, Option.bind_some, bI_0, R.2.2.1.gi3]
          rw [if_neg (by rw [e3]; exact nI_nlt (b := 8) (by omega) (by omega))]
          simp only [K_within, K_isHanger, K_isKind, K_isSpot, K_isSheet, R_hasDeposit R.2.2.1, R_hasGirl R.2.2.1, R.kg0, R.kg1, R.kob, R.2.2.1.ob_, Option.bind_some, bI_0, K_finding R (i := 1) (x := 1) (by omega) rfl]
        · unfold F_M_deposit F_M_deposit_0 F_M_deposit_51
          simp only [M_in, M_isHanger, M_isPlace, M_isDeposit M, M_isGirl M, M.ob_, M.gr0, Option.bind_some, bI_0]
          rw [if_neg (fun z => z c1), if_neg (fun z => z c2)]
          simp only [M_in, M_isHanger, M_isPlace, M_isDeposit M, M_isGirl M, M.ob_, M.gr0, Option.bind_some, bI_0, M.rd0 (i := 3) (x := 3) (by omega) rfl]
          rw [if_pos (by rw [e3, show dep (h 0) = 8 by omega]; rfl)]
          simp only [M_in, M_isHanger, M_isPlace, M_isDeposit M, M_isGirl M, M.ob_, M.gr0, Option.bind_some, bI_0, M_finds M (i := 1) (v := (-1000002)) (by omega) (by decide)]
    · refine SP_fd R G (i := 0) (r1 := (-1000001) - 0) (r2 := (-1000001)) ?_ (fun M => ?_) (by decide)
      · unfold F_K_deposit F_K_deposit_0 F_K_deposit_14
        simp only [K_within, K_isHanger, K_isKind, K_isSpot, K_isSheet, R_hasDeposit R.2.2.1, R_hasGirl R.2.2.1, R.kg0, R.kg1, R.kob, R.2.2.1.ob_, Option.bind_some, bI_0]
        rw [if_neg (fun z => z c1), if_pos c2]
        simp only [K_within, K_isHanger, K_isKind, K_isSpot, K_isSheet, R_hasDeposit R.2.2.1, R_hasGirl R.2.2.1, R.kg0, R.kg1, R.kob, R.2.2.1.ob_, Option.bind_some, bI_0, K_finding R (i := 0) (x := 0) (by omega) rfl]
      · unfold F_M_deposit F_M_deposit_0 F_M_deposit_17
        simp only [M_in, M_isHanger, M_isPlace, M_isDeposit M, M_isGirl M, M.ob_, M.gr0, Option.bind_some, bI_0]
        rw [if_neg (fun z => z c1), if_pos c2]
        simp only [M_in, M_isHanger, M_isPlace, M_isDeposit M, M_isGirl M, M.ob_, M.gr0, Option.bind_some, bI_0, M_finds M (i := 0) (v := (-1000001)) (by omega) (by decide)]
  · refine SP_fd R G (i := 0) (r1 := (-1000001) - 0) (r2 := (-1000001)) ?_ (fun M => ?_) (by decide)
    · unfold F_K_deposit F_K_deposit_0 F_K_deposit_14
      simp only [K_within, K_isHanger, K_isKind, K_isSpot, K_isSheet, R_hasDeposit R.2.2.1, R_hasGirl R.2.2.1, R.kg0, R.kg1, R.kob, R.2.2.1.ob_, Option.bind_some, bI_0]
      rw [if_pos c1]
      simp only [K_within, K_isHanger, K_isKind, K_isSpot, K_isSheet, R_hasDeposit R.2.2.1, R_hasGirl R.2.2.1, R.kg0, R.kg1, R.kob, R.2.2.1.ob_, Option.bind_some, bI_0, K_finding R (i := 0) (x := 0) (by omega) rfl]
    · unfold F_M_deposit F_M_deposit_0 F_M_deposit_17
      simp only [M_in, M_isHanger, M_isPlace, M_isDeposit M, M_isGirl M, M.ob_, M.gr0, Option.bind_some, bI_0]
      rw [if_pos c1]
      simp only [M_in, M_isHanger, M_isPlace, M_isDeposit M, M_isGirl M, M.ob_, M.gr0, Option.bind_some, bI_0, M_finds M (i := 0) (v := (-1000001)) (by omega) (by decide)]
theorem st3 : St3 Rel := by
  intro a1 w ⟨h, s, g2, g3, q, R, G⟩
  by_cases c1 : 1 ≤ a1 ∧ a1 ≤ 99
  · obtain ⟨d8, e3⟩ := Wf_grl G.1
    by_cases c3 : grl (h 0) < 6
    · obtain ⟨k, hk0, hk, rfl⟩ := btw (m := 1) (n := 99) rfl rfl (by omega) (by omega) c1
      refine SP_row R G (f := adG (h 0) (grl (h 0)) (nI k)) ?_ (r1 := nI (grl (h 0))) (r2 := nI (grl (h 0))) ?_ (fun M => ?_) rfl
      · exact adG_Wf G.1 c3 (by rw [nI_toInt (by omega)]; omega)
      · unfold F_K_girl F_K_girl_0
        simp only [K_within, K_isHanger, K_isKind, K_isSpot, K_isSheet, R_hasDeposit R.2.2.1, R_hasGirl R.2.2.1, R.kg0, R.kg1, R.kob, R.2.2.1.ob_, Option.bind_some, bI_0]
        rw [if_neg (fun z => z c1)]
        simp only [K_within, K_isHanger, K_isKind, K_isSpot, K_isSheet, R_hasDeposit R.2.2.1, R_hasGirl R.2.2.1, R.kg0, R.kg1, R.kob, R.2.2.1.ob_, Option.bind_some, bI_0, R.2.2.1.gi4]
        rw [if_pos (by rw [e3]; exact nI_lt (b := 6) c3 (by omega))]
        simp only [K_within, K_isHanger, K_isKind, K_isSpot, K_isSheet, R_hasDeposit R.2.2.1, R_hasGirl R.2.2.1, R.kg0, R.kg1, R.kob, R.2.2.1.ob_, Option.bind_some, bI_0, R_addGirl R.2.2.1 G.1 c3]
      · unfold F_M_girl F_M_girl_0 F_M_girl_42
        simp only [M_in, M_isHanger, M_isPlace, M_isDeposit M, M_isGirl M, M.ob_, M.gr0, Option.bind_some, bI_0]
        rw [if_neg (fun z => z c1)]
        simp only [M_in, M_isHanger, M_isPlace, M_isDeposit M, M_isGirl M, M.ob_, M.gr0, Option.bind_some, bI_0, M.rd0 (i := 4) (x := 4) (by omega) rfl]
        rw [if_neg (by rw [e3]; exact fun z => by rw [show (6 : Int32) = nI 6 from rfl, nI_eq (by omega) (by omega)] at z; omega)]
        simp only [M_in, M_isHanger, M_isPlace, M_isDeposit M, M_isGirl M, M.ob_, M.gr0, Option.bind_some, bI_0, M_enters M G.1 c3]
    · refine SP_fd R G (i := 1) (r1 := (-1000001) - 1) (r2 := (-1000002)) ?_ (fun M => ?_) (by decide)
      · unfold F_K_girl F_K_girl_0
        simp only [K_within, K_isHanger, K_isKind, K_isSpot, K_isSheet, R_hasDeposit R.2.2.1, R_hasGirl R.2.2.1, R.kg0, R.kg1, R.kob, R.2.2.1.ob_, Option.bind_some, bI_0]
        rw [if_neg (fun z => z c1)]
        simp only [K_within, K_isHanger, K_isKind, K_isSpot, K_isSheet, R_hasDeposit R.2.2.1, R_hasGirl R.2.2.1, R.kg0, R.kg1, R.kob, R.2.2.1.ob_, Option.bind_some, bI_0, R.2.2.1.gi4]
        rw [if_neg (by rw [e3]; exact nI_nlt (b := 6) (by omega) (by omega))]
        simp only [K_within, K_isHanger, K_isKind, K_isSpot, K_isSheet, R_hasDeposit R.2.2.1, R_hasGirl R.2.2.1, R.kg0, R.kg1, R.kob, R.2.2.1.ob_, Option.bind_some, bI_0, K_finding R (i := 1) (x := 1) (by omega) rfl]
      · unfold F_M_girl F_M_girl_0 F_M_girl_42
        simp only [M_in, M_isHanger, M_isPlace, M_isDeposit M, M_isGirl M, M.ob_, M.gr0, Option.bind_some, bI_0]
        rw [if_neg (fun z => z c1)]
        simp only [M_in, M_isHanger, M_isPlace, M_isDeposit M, M_isGirl M, M.ob_, M.gr0, Option.bind_some, bI_0, M.rd0 (i := 4) (x := 4) (by omega) rfl]
        rw [if_pos (by rw [e3, show grl (h 0) = 6 by omega]; rfl)]
        simp only [M_in, M_isHanger, M_isPlace, M_isDeposit M, M_isGirl M, M.ob_, M.gr0, Option.bind_some, bI_0, M_finds M (i := 1) (v := (-1000002)) (by omega) (by decide)]
  · refine SP_fd R G (i := 0) (r1 := (-1000001) - 0) (r2 := (-1000001)) ?_ (fun M => ?_) (by decide)
    · unfold F_K_girl F_K_girl_0
      simp only [K_within, K_isHanger, K_isKind, K_isSpot, K_isSheet, R_hasDeposit R.2.2.1, R_hasGirl R.2.2.1, R.kg0, R.kg1, R.kob, R.2.2.1.ob_, Option.bind_some, bI_0]
      rw [if_pos c1]
      simp only [K_within, K_isHanger, K_isKind, K_isSpot, K_isSheet, R_hasDeposit R.2.2.1, R_hasGirl R.2.2.1, R.kg0, R.kg1, R.kob, R.2.2.1.ob_, Option.bind_some, bI_0, K_finding R (i := 0) (x := 0) (by omega) rfl]
    · unfold F_M_girl F_M_girl_0
      simp only [M_in, M_isHanger, M_isPlace, M_isDeposit M, M_isGirl M, M.ob_, M.gr0, Option.bind_some, bI_0]
      rw [if_pos c1]
      simp only [M_in, M_isHanger, M_isPlace, M_isDeposit M, M_isGirl M, M.ob_, M.gr0, Option.bind_some, bI_0, M_finds M (i := 0) (v := (-1000001)) (by omega) (by decide)]
theorem st27 : St27 Rel := by
  intro a1 w ⟨h, s, g2, g3, q, R, G⟩
  refine SP_row R G (f := upd (h 0) 2 a1) (Wf_upd G.1 (by omega) (by omega) (fun z => absurd rfl z) (fun _ _ => by omega)) (r1 := h 0 2) (r2 := h 0 2) ?_ (fun M => ?_) rfl
  · unfold F_K_seed F_K_seed_0
    simp only [K_within, K_isHanger, K_isKind, K_isSpot, K_isSheet, R_hasDeposit R.2.2.1, R_hasGirl R.2.2.1, R.kg0, R.kg1, R.kob, R.2.2.1.ob_, Option.bind_some, bI_0, R.2.2.1.gi2, R.2.2.1.pf_ (j := 2) (by omega)]
  · unfold F_M_seed F_M_seed_0
    simp only [M_in, M_isHanger, M_isPlace, M_isDeposit M, M_isGirl M, M.ob_, M.gr0, Option.bind_some, bI_0, M_becomes M (i := 2) (x := 2) (by omega) rfl]
theorem sp_n {i : Nat} {x : Int32} (hx : x = nI i) : 77 + x = nI (77 + i) := by subst hx; exact nI_add 77 i
theorem st31 : St31 Rel := by
  intro a1 a2 w ⟨h, s, g2, g3, q, R, G⟩
  by_cases c1 : 0 ≤ a1 ∧ a1 ≤ 9
  · by_cases c2 : a2 = -1 ∨ (0 ≤ a2 ∧ a2 ≤ h 0 3 - 1)
    · have c1' := c1
      obtain ⟨k, -, hk, rfl⟩ := btw (m := 0) (n := 9) rfl rfl (by omega) (by omega) c1'
      have hb : -1 ≤ a2.toInt ∧ a2.toInt < (h 0 3).toInt := by
        obtain ⟨d8, e3⟩ := Wf_dep G.1
        rcases c2 with rfl | c2
        · rw [e3, nI_toInt (by omega)]; exact ⟨by decide, by show (-1 : Int) < _; omega⟩
        · rw [e3] at c2 ⊢
          obtain ⟨j, hj, rfl⟩ := (in_iff (by omega)).mp c2
          rw [nI_toInt (by omega), nI_toInt (by omega)]; omega
      refine SP_row R G (f := upd (h 0) (77 + k) a2) (Wf_spot G.1 (by omega) hb.1 hb.2) (r1 := 1) (r2 := 1) ?_ (fun M => ?_) rfl
      · unfold F_K_hold F_K_hold_0
        simp only [K_within, K_isHanger, K_isKind, K_isSpot, K_isSheet, R_hasDeposit R.2.2.1, R_hasGirl R.2.2.1, R.kg0, R.kg1, R.kob, R.2.2.1.ob_, Option.bind_some, bI_0]
        rw [if_neg (fun z => z c1)]
        have e : F_K_hold_29 0 (nI k) a2 w = some (1, rW w 1 (upd (h 0) (77 + k) a2)) := by
          unfold F_K_hold_29
          simp only [K_within, K_isHanger, K_isKind, K_isSpot, K_isSheet, R_hasDeposit R.2.2.1, R_hasGirl R.2.2.1, R.kg0, R.kg1, R.kob, R.2.2.1.ob_, Option.bind_some, bI_0, R.2.2.1.a_gr15, R.2.2.1.a_wr_spots (i := k) (by omega) rfl]
        split
        · exact e
        · rename_i c; rw [if_neg (fun z => z (c2.resolve_left c))]; exact e
      · unfold F_M_hold F_M_hold_0
        simp only [M_in, M_isHanger, M_isPlace, M_isDeposit M, M_isGirl M, M.ob_, M.gr0, Option.bind_some, bI_0]
        rw [if_neg (fun z => z c1)]
        have e : F_M_hold_30 49 (nI k) a2 (rW w 1 (upd (h 0) (77 + k) a2)) = some (1, mW (rW w 1 (upd (h 0) (77 + k) a2)) 0 (upd (h 0) (77 + k) a2)) := by
          unfold F_M_hold_30
          simp only [M_in, M_isHanger, M_isPlace, M_isDeposit M, M_isGirl M, M.ob_, M.gr0, Option.bind_some, bI_0, M.wr0 (i := 77 + k) (by omega) (sp_n rfl)]
        split
        · exact e
        · rename_i c; rw [if_neg (fun z => z (c2.resolve_left c))]; exact e
    · refine SP_fd R G (i := 0) (r1 := (-1000001) - 0) (r2 := (-1000001)) ?_ (fun M => ?_) (by decide)
      · unfold F_K_hold F_K_hold_0 F_K_hold_23
        simp only [K_within, K_isHanger, K_isKind, K_isSpot, K_isSheet, R_hasDeposit R.2.2.1, R_hasGirl R.2.2.1, R.kg0, R.kg1, R.kob, R.2.2.1.ob_, Option.bind_some, bI_0]
        rw [if_neg (fun z => z c1), if_neg (fun z => c2 (Or.inl z)), if_pos (fun z => c2 (Or.inr z))]
        simp only [K_within, K_isHanger, K_isKind, K_isSpot, K_isSheet, R_hasDeposit R.2.2.1, R_hasGirl R.2.2.1, R.kg0, R.kg1, R.kob, R.2.2.1.ob_, Option.bind_some, bI_0, K_finding R (i := 0) (x := 0) (by omega) rfl]
      · unfold F_M_hold F_M_hold_0 F_M_hold_23
        simp only [M_in, M_isHanger, M_isPlace, M_isDeposit M, M_isGirl M, M.ob_, M.gr0, Option.bind_some, bI_0]
        rw [if_neg (fun z => z c1), if_neg (fun z => c2 (Or.inl z)), if_pos (fun z => c2 (Or.inr z))]
        simp only [M_in, M_isHanger, M_isPlace, M_isDeposit M, M_isGirl M, M.ob_, M.gr0, Option.bind_some, bI_0, M_finds M (i := 0) (v := (-1000001)) (by omega) (by decide)]
  · refine SP_fd R G (i := 0) (r1 := (-1000001) - 0) (r2 := (-1000001)) ?_ (fun M => ?_) (by decide)
    · unfold F_K_hold F_K_hold_0 F_K_hold_23
      simp only [K_within, K_isHanger, K_isKind, K_isSpot, K_isSheet, R_hasDeposit R.2.2.1, R_hasGirl R.2.2.1, R.kg0, R.kg1, R.kob, R.2.2.1.ob_, Option.bind_some, bI_0]
      rw [if_pos c1]
      simp only [K_within, K_isHanger, K_isKind, K_isSpot, K_isSheet, R_hasDeposit R.2.2.1, R_hasGirl R.2.2.1, R.kg0, R.kg1, R.kob, R.2.2.1.ob_, Option.bind_some, bI_0, K_finding R (i := 0) (x := 0) (by omega) rfl]
    · unfold F_M_hold F_M_hold_0 F_M_hold_23
      simp only [M_in, M_isHanger, M_isPlace, M_isDeposit M, M_isGirl M, M.ob_, M.gr0, Option.bind_some, bI_0]
      rw [if_pos c1]
      simp only [M_in, M_isHanger, M_isPlace, M_isDeposit M, M_isGirl M, M.ob_, M.gr0, Option.bind_some, bI_0, M_finds M (i := 0) (v := (-1000001)) (by omega) (by decide)]
def und (k o : Nat) : Bool := decide (o = 0) || decide (o = k) || (decide (o = 1) && (decide (k = 3) || decide (k = 4))) || (decide (o = 3) && decide (k = 4)) || (decide (o = 2) && decide (k = 6))
theorem K_und_all : ∀ k, k < 7 → ∀ o, o < 7 → F_K_isUnder_4 8 (nI o) (nI k) 0 = (fun w => some (if und k o then 1 else 0, w)) := by
  intro k hk o ho
  rcases (show k = 0 ∨ k = 1 ∨ k = 2 ∨ k = 3 ∨ k = 4 ∨ k = 5 ∨ k = 6 by omega) with rfl | rfl | rfl | rfl | rfl | rfl | rfl <;> rcases (show o = 0 ∨ o = 1 ∨ o = 2 ∨ o = 3 ∨ o = 4 ∨ o = 5 ∨ o = 6 by omega) with rfl | rfl | rfl | rfl | rfl | rfl | rfl <;> rfl
theorem K_und_up : ∀ (n : Nat) (o a i : Int32) (w : A_W) (r : Int32 × A_W), F_K_isUnder_4 n o a i w = some r → F_K_isUnder_4 (n + 1) o a i w = some r := by
  intro n
  induction n with
  | zero => intro o a i w r h; exact absurd h (by rw [F_K_isUnder_4]; simp)
  | succ n ih =>
    intro o a i w r h
    rw [F_K_isUnder_4] at h ⊢
    split
    · rename_i c; rw [if_pos c] at h; exact h
    · rename_i c; rw [if_neg c] at h
      split
      · rename_i c2; rw [if_pos c2] at h; exact h
      · rename_i c2; rw [if_neg c2] at h
        split
        · rename_i c3; rw [if_pos c3] at h; exact h
        · rename_i c3; rw [if_neg c3] at h
          cases hr : rs 3 a with
          | none => rw [hr] at h; simp at h
          | some v =>
            rw [hr] at h
            exact ih _ _ _ _ _ h
theorem K_isUnder {k o : Nat} (hk : k < 7) (ho : o < 7) (w : A_W) : F_K_isUnder (nI k) (nI o) w = some (if und k o then 1 else 0, w) := by
  unfold F_K_isUnder F_K_isUnder_0
  have h1 : F_K_isUnder_4 8 (nI o) (nI k) 0 w = some (if und k o then 1 else 0, w) := congrFun (K_und_all k hk o ho) w
  have h2 : ∀ m, F_K_isUnder_4 (8 + m) (nI o) (nI k) 0 w = some (if und k o then 1 else 0, w) := by
    intro m
    induction m with
    | zero => exact h1
    | succ m ih => exact K_und_up _ _ _ _ _ _ ih
  exact h2 (FU - 8)
theorem M_und_all : ∀ k, k < 7 → ∀ o, o < 7 → F_M_isUnder (nI k) (nI o) = (fun w => some (if und k o then 1 else 0, w)) := by
  intro k hk o ho
  rcases (show k = 0 ∨ k = 1 ∨ k = 2 ∨ k = 3 ∨ k = 4 ∨ k = 5 ∨ k = 6 by omega) with rfl | rfl | rfl | rfl | rfl | rfl | rfl <;> rcases (show o = 0 ∨ o = 1 ∨ o = 2 ∨ o = 3 ∨ o = 4 ∨ o = 5 ∨ o = 6 by omega) with rfl | rfl | rfl | rfl | rfl | rfl | rfl <;> rfl
theorem M_isUnder {k o : Nat} (hk : k < 7) (ho : o < 7) (w : A_W) : F_M_isUnder (nI k) (nI o) w = some (if und k o then 1 else 0, w) := congrFun (M_und_all k hk o ho) w
theorem st32 : St32 Rel := by
  intro a1 a2 w ⟨h, s, g2, g3, q, R, G⟩
  by_cases c1 : 0 ≤ a1 ∧ a1 ≤ 9
  · by_cases c2 : 0 ≤ a2 ∧ a2 ≤ 6
    · have c1' := c1
      have c2' := c2
      obtain ⟨i, -, hi, rfl⟩ := btw (m := 0) (n := 9) rfl rfl (by omega) (by omega) c1'
      obtain ⟨o, -, ho, rfl⟩ := btw (m := 0) (n := 6) rfl rfl (by omega) (by omega) c2'
      obtain ⟨b1, b2⟩ := G.1.2.2 i (by omega)
      obtain ⟨d8, e3⟩ := Wf_dep G.1
      rw [e3, nI_toInt (by omega)] at b2
      by_cases c3 : 0 ≤ (h 0 (77 + i)).toInt
      · obtain ⟨d, hd, ed⟩ : ∃ d, d < dep (h 0) ∧ h 0 (77 + i) = nI d := ⟨(h 0 (77 + i)).toNatClampNeg, by show (h 0 (77 + i)).toInt.toNat < _; omega, nI_of_bd c3 (Int.le_of_lt b2)⟩
        have c4 : 0 ≤ nI d ∧ nI d ≤ h 0 3 - 1 := by rw [e3]; exact (in_iff (by omega)).mpr ⟨d, hd, rfl⟩
        have hd8 : d < 8 := by omega
        obtain ⟨k, ek, hk⟩ := Wf_n G.1 hd8 (e := 0) (by omega)
        have hk : k < 7 := by have : (k : Int) ≤ 6 := hk; omega
        rw [Nat.add_zero] at ek
        by_cases c5 : und k o = true
        · refine SP_id R G (r1 := nI d) (r2 := nI d) ?_ ?_ rfl
          · unfold F_K_as F_K_as_0 F_K_as_72
            simp only [K_within, K_isHanger, K_isKind, K_isSpot, K_isSheet, R_hasDeposit R.2.2.1, R_hasGirl R.2.2.1, R.kg0, R.kg1, R.kob, R.2.2.1.ob_, Option.bind_some, bI_0]
            rw [if_neg (fun z => z c1), if_neg (fun z => z c2)]
            simp only [K_within, K_isHanger, K_isKind, K_isSpot, K_isSheet, R_hasDeposit R.2.2.1, R_hasGirl R.2.2.1, R.kg0, R.kg1, R.kob, R.2.2.1.ob_, Option.bind_some, bI_0, R.2.2.1.a_gr15, R.2.2.1.a_rd_spots (i := i) (by omega) rfl, ed]
            rw [if_neg (fun z => z c4)]
            simp only [K_within, K_isHanger, K_isKind, K_isSpot, K_isSheet, R_hasDeposit R.2.2.1, R_hasGirl R.2.2.1, R.kg0, R.kg1, R.kob, R.2.2.1.ob_, Option.bind_some, bI_0, R.2.2.1.a_gr6, R.2.2.1.a_rd_kind hd8 rfl, ek, K_isUnder hk (show o < 7 by omega)]
            rw [if_pos c5, if_neg (by decide)]
          · have M := R.1
            unfold F_M_as F_M_as_0 F_M_as_71
            simp only [M_in, M_isHanger, M_isPlace, M_isDeposit M, M_isGirl M, M.ob_, M.gr0, Option.bind_some, bI_0]
            rw [if_neg (fun z => z c1), if_neg (fun z => z c2)]
            simp only [M_in, M_isHanger, M_isPlace, M_isDeposit M, M_isGirl M, M.ob_, M.gr0, Option.bind_some, bI_0, M.rd0 (i := 77 + i) (by omega) (sp_n rfl), ed]
            rw [if_pos (nI_pos' (by omega))]
            simp only [M_in, M_isHanger, M_isPlace, M_isDeposit M, M_isGirl M, M.ob_, M.gr0, Option.bind_some, bI_0, M_it M hd8 (e := 0) (y := 0) (by omega) rfl rfl, Nat.add_zero, ek, M_isUnder hk (show o < 7 by omega)]
            rw [if_pos c5, if_neg (by decide)]
        · refine SP_fd R G (i := 2) (r1 := (-1000001) - 2) (r2 := (-1000003)) ?_ (fun M => ?_) (by decide)
          · unfold F_K_as F_K_as_0 F_K_as_72
            simp only [K_within, K_isHanger, K_isKind, K_isSpot, K_isSheet, R_hasDeposit R.2.2.1, R_hasGirl R.2.2.1, R.kg0, R.kg1, R.kob, R.2.2.1.ob_, Option.bind_some, bI_0]
            rw [if_neg (fun z => z c1), if_neg (fun z => z c2)]
            simp only [K_within, K_isHanger, K_isKind, K_isSpot, K_isSheet, R_hasDeposit R.2.2.1, R_hasGirl R.2.2.1, R.kg0, R.kg1, R.kob, R.2.2.1.ob_, Option.bind_some, bI_0, R.2.2.1.a_gr15, R.2.2.1.a_rd_spots (i := i) (by omega) rfl, ed]
            rw [if_neg (fun z => z c4)]
            simp only [K_within, K_isHanger, K_isKind, K_isSpot, K_isSheet, R_hasDeposit R.2.2.1, R_hasGirl R.2.2.1, R.kg0, R.kg1, R.kob, R.2.2.1.ob_, Option.bind_some, bI_0, R.2.2.1.a_gr6, R.2.2.1.a_rd_kind hd8 rfl, ek, K_isUnder hk (show o < 7 by omega)]
            rw [if_neg c5, if_pos rfl]
            simp only [K_within, K_isHanger, K_isKind, K_isSpot, K_isSheet, R_hasDeposit R.2.2.1, R_hasGirl R.2.2.1, R.kg0, R.kg1, R.kob, R.2.2.1.ob_, Option.bind_some, bI_0, K_finding R (i := 2) (x := 2) (by omega) rfl]
          · unfold F_M_as F_M_as_0 F_M_as_71
            simp only [M_in, M_isHanger, M_isPlace, M_isDeposit M, M_isGirl M, M.ob_, M.gr0, Option.bind_some, bI_0]
            rw [if_neg (fun z => z c1), if_neg (fun z => z c2)]
            simp only [M_in, M_isHanger, M_isPlace, M_isDeposit M, M_isGirl M, M.ob_, M.gr0, Option.bind_some, bI_0, M.rd0 (i := 77 + i) (by omega) (sp_n rfl), ed]
            rw [if_pos (nI_pos' (by omega))]
            simp only [M_in, M_isHanger, M_isPlace, M_isDeposit M, M_isGirl M, M.ob_, M.gr0, Option.bind_some, bI_0, M_it M hd8 (e := 0) (y := 0) (by omega) rfl rfl, Nat.add_zero, ek, M_isUnder hk (show o < 7 by omega)]
            rw [if_neg c5, if_pos rfl]
            simp only [M_in, M_isHanger, M_isPlace, M_isDeposit M, M_isGirl M, M.ob_, M.gr0, Option.bind_some, bI_0, M_finds M (i := 2) (v := (-1000003)) (by omega) (by decide)]
      · have c4 : ¬ (0 ≤ h 0 (77 + i) ∧ h 0 (77 + i) ≤ h 0 3 - 1) := fun z => c3 (by have := Int32.le_iff_toInt_le.mp z.1; simpa using this)
        have c5 : ¬ 0 ≤ h 0 (77 + i) := fun z => c3 (by have := Int32.le_iff_toInt_le.mp z; simpa using this)
        refine SP_fd R G (i := 5) (r1 := (-1000001) - 5) (r2 := (-1000006)) ?_ (fun M => ?_) (by decide)
        · unfold F_K_as F_K_as_0
          simp only [K_within, K_isHanger, K_isKind, K_isSpot, K_isSheet, R_hasDeposit R.2.2.1, R_hasGirl R.2.2.1, R.kg0, R.kg1, R.kob, R.2.2.1.ob_, Option.bind_some, bI_0]
          rw [if_neg (fun z => z c1), if_neg (fun z => z c2)]
          simp only [K_within, K_isHanger, K_isKind, K_isSpot, K_isSheet, R_hasDeposit R.2.2.1, R_hasGirl R.2.2.1, R.kg0, R.kg1, R.kob, R.2.2.1.ob_, Option.bind_some, bI_0, R.2.2.1.a_gr15, R.2.2.1.a_rd_spots (i := i) (by omega) rfl]
          rw [if_pos c4]
          simp only [K_within, K_isHanger, K_isKind, K_isSpot, K_isSheet, R_hasDeposit R.2.2.1, R_hasGirl R.2.2.1, R.kg0, R.kg1, R.kob, R.2.2.1.ob_, Option.bind_some, bI_0, K_finding R (i := 5) (x := 5) (by omega) rfl]
        · unfold F_M_as F_M_as_0
          simp only [M_in, M_isHanger, M_isPlace, M_isDeposit M, M_isGirl M, M.ob_, M.gr0, Option.bind_some, bI_0]
          rw [if_neg (fun z => z c1), if_neg (fun z => z c2)]
          simp only [M_in, M_isHanger, M_isPlace, M_isDeposit M, M_isGirl M, M.ob_, M.gr0, Option.bind_some, bI_0, M.rd0 (i := 77 + i) (by omega) (sp_n rfl)]
          rw [if_neg c5]
          simp only [M_in, M_isHanger, M_isPlace, M_isDeposit M, M_isGirl M, M.ob_, M.gr0, Option.bind_some, bI_0, M_finds M (i := 5) (v := (-1000006)) (by omega) (by decide)]
    · refine SP_fd R G (i := 0) (r1 := (-1000001) - 0) (r2 := (-1000001)) ?_ (fun M => ?_) (by decide)
      · unfold F_K_as F_K_as_0 F_K_as_14
        simp only [K_within, K_isHanger, K_isKind, K_isSpot, K_isSheet, R_hasDeposit R.2.2.1, R_hasGirl R.2.2.1, R.kg0, R.kg1, R.kob, R.2.2.1.ob_, Option.bind_some, bI_0]
        rw [if_neg (fun z => z c1), if_pos c2]
        simp only [K_within, K_isHanger, K_isKind, K_isSpot, K_isSheet, R_hasDeposit R.2.2.1, R_hasGirl R.2.2.1, R.kg0, R.kg1, R.kob, R.2.2.1.ob_, Option.bind_some, bI_0, K_finding R (i := 0) (x := 0) (by omega) rfl]
      · unfold F_M_as F_M_as_0 F_M_as_20
        simp only [M_in, M_isHanger, M_isPlace, M_isDeposit M, M_isGirl M, M.ob_, M.gr0, Option.bind_some, bI_0]
        rw [if_neg (fun z => z c1), if_pos c2]
        simp only [M_in, M_isHanger, M_isPlace, M_isDeposit M, M_isGirl M, M.ob_, M.gr0, Option.bind_some, bI_0, M_finds M (i := 0) (v := (-1000001)) (by omega) (by decide)]
  · refine SP_fd R G (i := 0) (r1 := (-1000001) - 0) (r2 := (-1000001)) ?_ (fun M => ?_) (by decide)
    · unfold F_K_as F_K_as_0 F_K_as_14
      simp only [K_within, K_isHanger, K_isKind, K_isSpot, K_isSheet, R_hasDeposit R.2.2.1, R_hasGirl R.2.2.1, R.kg0, R.kg1, R.kob, R.2.2.1.ob_, Option.bind_some, bI_0]
      rw [if_pos c1]
      simp only [K_within, K_isHanger, K_isKind, K_isSpot, K_isSheet, R_hasDeposit R.2.2.1, R_hasGirl R.2.2.1, R.kg0, R.kg1, R.kob, R.2.2.1.ob_, Option.bind_some, bI_0, K_finding R (i := 0) (x := 0) (by omega) rfl]
    · unfold F_M_as F_M_as_0 F_M_as_20
      simp only [M_in, M_isHanger, M_isPlace, M_isDeposit M, M_isGirl M, M.ob_, M.gr0, Option.bind_some, bI_0]
      rw [if_pos c1]
      simp only [M_in, M_isHanger, M_isPlace, M_isDeposit M, M_isGirl M, M.ob_, M.gr0, Option.bind_some, bI_0, M_finds M (i := 0) (v := (-1000001)) (by omega) (by decide)]
