/-! THE HIGHEST HOPE -/
section HOP
variable {h : Nat → Nat → Int32} {s : Nat → Int32} {g3 q : Nat → Int32}
theorem K_dls_loop {j N : Nat} (hj : j < 6) (hN' : N ≤ 100) : ∀ (m k d : Nat) (w : A_W) (t : Nat → Int32) (l : Nat) (x : Int32), RelX w h s t g3 q → Wf t → j < grl t → hN t j = 100 → x = nI d → d + k = N → k < m → ∃ u, F_K_dreamOfLastStand_27 m 0 (nI j) (nI N) (nI l) x w = some (nI (dls j k t (dN t j) l), rW w 13 u) := by
  intro m
  induction m with
  | zero => intro k d w t l x _ _ _ _ _ _ hk; exact absurd hk (by omega)
  | succ m ih =>
    intro k d w t l x R hf hg hh hx hk hm
    rw [F_K_dreamOfLastStand_27, hx]
    cases k with
    | zero =>
      rw [if_pos (nI_le (by omega) (by omega))]
      exact ⟨t, by rw [R.2.2.2.1.rW_id]; rfl⟩
    | succ k =>
      rw [if_neg (fun z => by rw [nI_leI (by omega) (by omega)] at z; omega)]
      unfold F_K_dreamOfLastStand_49 F_K_dreamOfLastStand_74
      have hp := R_passDays R.2.2.2.1 hf (n := 1) (x := 1) (by omega) rfl
      have R1 := R.trial (GON 1 t)
      have hW : Wf (GON 1 t) := GON_Wf 1 t hf
      obtain ⟨ed, bd⟩ := dN_e hW hj
      have hgd : F_R_girlOfDay 13 w = some (nI (sG t), w) := R_girlOfDay R.2.2.2.1 hf
      have bs : sG t ≤ 5 := by have := (stI_n hf).2.1; unfold sG; omega
      simp only [R.kg1, Option.bind_some, R.2.2.2.1.ob_, hgd, hp, R1.kg1, R1.2.2.2.1.b_gr12, R1.2.2.2.1.b_rd_dream hj rfl, ed]
      have e1 : hN (GON 1 t) j = 100 := by show hN (GOES t) j = 100; rw [GO_h hf hj, hh]
      have e2 : j < grl (GON 1 t) := by show j < grl (GOES t); rw [GO_grl hf]; exact hg
      have i := fun l => ih k (d + 1) _ _ l (nI d + 1) R1 hW e2 e1 (nI_1 d) (by omega) (by omega)
      have ed2 : dN (GON 1 t) j = if sG t = j ∧ j < grl t then (if min (dN t j + Ln t) 99 < hN t j then min (dN t j + Ln t) 99 else 0) else dN t j := GO_d hf hj
      rw [dls]
      by_cases c : sG t = j
      · have cc : sG t = j ∧ j < grl t := ⟨c, hg⟩
        rw [if_pos cc, if_pos (by rw [hh]; omega)] at ed2
        rw [if_pos (by rw [c]), if_neg (by decide), if_pos c]
        obtain ⟨u, hu⟩ := i (dN (GON 1 t) j)
        refine ⟨u, ?_⟩
        rw [hu, rW_rW, ed2]
        rfl
      · have cc : ¬ (sG t = j ∧ j < grl t) := fun z => c z.1
        rw [if_neg cc] at ed2
        rw [if_neg (fun z => c ((nI_eq (by omega) (by omega)).mp z)), if_pos trivial, if_neg c]
        obtain ⟨u, hu⟩ := i l
        refine ⟨u, ?_⟩
        rw [hu, rW_rW, ed2]
        rfl
theorem hope_Wf {f : Nat → Int32} (hf : Wf f) {j H : Nat} (hj : j < 6) (hH : H ≤ 100) : Wf (upd f (60 + 3 * j) (nI H)) := by
  have h1 := Wf_girl hf hj (e := 1) (v := nI H) (by omega) (by rw [nI_toInt (by omega)]; omega) (by rw [nI_toInt (by omega)]; show (H : Int) ≤ 100; omega)
  rw [show 59 + 3 * j + 1 = 60 + 3 * j by omega] at h1
  exact h1
theorem hope_ag (f : Nat → Int32) (j : Nat) (v : Int32) : agD (upd f (60 + 3 * j) v) f := fun i hi => upd_n (by omega)
theorem hope_n {f : Nat → Int32} {j H : Nat} (hH : H ≤ 100) : hN (upd f (60 + 3 * j) (nI H)) j = H ∧ dN (upd f (60 + 3 * j) (nI H)) j = dN f j ∧ mN (upd f (60 + 3 * j) (nI H)) j = mN f j ∧ grl (upd f (60 + 3 * j) (nI H)) = grl f := by
  unfold hN dN mN grl
  rw [upd_s, upd_n (by omega), upd_n (by omega), upd_n (by omega), nI_clamp (by omega)]
  exact ⟨rfl, rfl, rfl, rfl⟩
theorem K_dls {w : A_W} {g2 : Nat → Int32} (R : RelX w h s g2 g3 q) (hf : Wf (h 0)) {j n : Nat} (hj : j < 6) (hg : j < grl (h 0)) (hn : n ≤ 100) : ∃ u, F_K_dreamOfLastStand 0 (nI j) (nI n) w = some (nI (dls j n (h 0) (dN (h 0) j) 0), rW w 13 u) := by
  unfold F_K_dreamOfLastStand F_K_dreamOfLastStand_0
  have R1 := R.trial (h 0)
  have hw := R1.2.2.2.1.b_wr_hope hj (x := nI j) rfl 100
  rw [rW_rW] at hw
  have hw : wr (rW w 13 (h 0)) 22 (nI j) 100 = some (rW w 13 (upd (h 0) (60 + 3 * j) (nI 100))) := hw
  have R2 := R.trial (upd (h 0) (60 + 3 * j) (nI 100))
  obtain ⟨e1, e2, e3, e4⟩ := hope_n (f := h 0) (j := j) (H := 100) (by omega)
  obtain ⟨u, hu⟩ := K_dls_loop (j := j) (N := n) hj hn FU n 0 _ _ 0 0 R2 (hope_Wf hf hj (by omega)) (by rw [e4]; exact hg) e1 rfl (by omega) (by unfold FU; omega)
  refine ⟨u, ?_⟩
  rw [R.kg1, Option.bind_some, R.kg0, Option.bind_some, R.2.2.2.1.ob_, Option.bind_some, R_become R.2.2.2.1 R.2.2.1 (by omega), Option.bind_some, R1.kg1, Option.bind_some, R1.2.2.2.1.b_gr13, Option.bind_some, hw, Option.bind_some]
  have hu : F_K_dreamOfLastStand_27 FU 0 (nI j) (nI n) 0 0 (rW w 13 (upd (h 0) (60 + 3 * j) (nI 100))) = _ := hu
  rw [hu, rW_rW, e2, dls_ag j n _ _ _ _ (hope_ag (h 0) j (nI 100)) (hope_Wf hf hj (by omega)) hf]
theorem M_hope_loop {w : A_W} (hM : MM w h s) (hf : Wf (h 0)) {j n : Nat} (hj : j < 6) (hg : j < grl (h 0)) (hn : n ≤ 100) : ∀ (H m : Nat), H ≤ 99 → H + 1 < m → (dls j n (h 0) (dN (h 0) j) 0 ≤ H ∨ mN (h 0) j = 9999) → F_M_hopeFor_43 m 49 (nI j) (nI n) (nI (mN (h 0) j)) (-1) (nI H) (mW w 2 (cpR (h 0) (h 2))) = if 0 < dls j n (h 0) (dN (h 0) j) 0 ∧ mN (h 0) j < 9999 then some (nI (dls j n (h 0) (dN (h 0) j) 0), mW w 2 (cpR (h 0) (h 2))) else some (-1000004, mW (mW w 2 (cpR (h 0) (h 2))) 3 (bmp h 3)) := by
  have h1 := hM.set (a := 2) (by omega) (cpR (h 0) (h 2))
  have e0 : (hset h 2 (cpR (h 0) (h 2))) 0 = h 0 := hset_ne _ _ (by omega)
  intro H
  induction H with
  | zero =>
    intro m _ hm hd
    obtain ⟨m, rfl⟩ : ∃ m', m = m' + 1 := ⟨m - 1, by omega⟩
    rw [F_M_hopeFor_43, if_pos (by decide), if_neg (by omega)]
    unfold F_M_hopeFor_94
    rw [h1.ob_, Option.bind_some, M_orNone_n h1, Option.bind_some, bmp_was]
  | succ H ih =>
    intro m hH hm hd
    obtain ⟨m, rfl⟩ : ∃ m', m = m' + 1 := ⟨m - 1, by omega⟩
    have bm := (mN_e hf hj).2
    have bd := (dN_e hf hj).2
    rw [F_M_hopeFor_43, if_neg (nI_nle (by omega) (by omega)), if_neg (by decide)]
    have hw := hope_Wf hf hj (H := H + 1) (by omega)
    obtain ⟨e1, e2, e3, e4⟩ := hope_n (f := h 0) (j := j) (H := H + 1) (by omega)
    have hT : Tl (h 0) (upd (h 0) (60 + 3 * j) (nI (H + 1))) := (Tl.rf _).up (by omega) _
    have hl := M_lets h1 hj (e := 1) (x := nI j) (y := 1) (by omega) rfl rfl (nI (H + 1))
    rw [e0, show 59 + 3 * j + 1 = 60 + 3 * j by omega] at hl
    have h2 := h1.set (a := 0) (by omega) (upd (h 0) (60 + 3 * j) (nI (H + 1)))
    have hgo := M_goesFor h2 (by rw [hset_self]; exact hw) (n := n) (x := nI n) (by omega) rfl
    rw [hset_self, mW_mW] at hgo
    have h3 := h1.set (a := 0) (by omega) (GON n (upd (h 0) (60 + 3 * j) (nI (H + 1))))
    have hh := M_her h3 hj (e := 2) (x := nI j) (y := 2) (by omega) rfl rfl
    rw [hset_self, show 59 + 3 * j + 2 = 61 + 3 * j by omega, (mN_e (GON_Wf n _ hw) hj).1, hop_e hj n _ hw (by rw [e4]; exact hg), e1, e2, e3, hop_ag j (H + 1) n _ _ _ _ (hope_ag (h 0) j (nI (H + 1))) hw hf] at hh
    have hb := M_back hM (hT.tr (GON_Tl n _ hw))
    have hu := hop_up j (H + 1) n (h 0) (dN (h 0) j) (mN (h 0) j) bm
    have hk := hop_dls j (H + 1) n (h 0) (dN (h 0) j) 0 (mN (h 0) j) (by omega) bd (by omega) bm
    have hy : F_M_hopeFor_43 m 49 (nI j) (nI n) (nI (mN (h 0) j)) (nI (H + 1)) (nI (H + 1) + (-1)) (mW w 2 (cpR (h 0) (h 2))) = some (nI (H + 1), mW w 2 (cpR (h 0) (h 2))) := by
      obtain ⟨m, rfl⟩ : ∃ m', m = m' + 1 := ⟨m - 1, by omega⟩
      have e : F_M_hopeFor_94 49 (nI (H + 1)) (mW w 2 (cpR (h 0) (h 2))) = some (nI (H + 1), mW w 2 (cpR (h 0) (h 2))) := by
        unfold F_M_hopeFor_94
        rw [h1.ob_, Option.bind_some, M_orNone_y h1 (by omega), Option.bind_some]
      rw [F_M_hopeFor_43]
      split
      · exact e
      · rw [if_pos (nI_pos' (by omega))]; exact e
    have hno := ih m (by omega) (by omega)
    rw [h1.ob_, Option.bind_some, hl, Option.bind_some, h2.ob_, Option.bind_some, hgo, Option.bind_some, h3.ob_, Option.bind_some, hh, Option.bind_some]
    unfold F_M_hopeFor_82
    dsimp only
    by_cases c : mN (h 0) j < hop j (H + 1) n (h 0) (dN (h 0) j) (mN (h 0) j)
    · have c2 := hk.mp c
      have ed : dls j n (h 0) (dN (h 0) j) 0 = H + 1 := by omega
      rw [if_neg (fun z => by rw [nI_leI (by omega) (by omega)] at z; omega), h3.ob_, Option.bind_some, hb, Option.bind_some, hy, ed, if_pos ⟨by omega, c2.2⟩]
    · rw [if_pos (nI_le (by omega) (by omega)), h3.ob_, Option.bind_some, hb, Option.bind_some, pk_m1]
      exact hno (by rcases hd with hd | hd
                    · by_cases c3 : H + 1 ≤ dls j n (h 0) (dN (h 0) j) 0
                      · right
                        by_cases c4 : mN (h 0) j < 9999
                        · exact absurd (hk.mpr ⟨c3, c4⟩) c
                        · omega
                      · left; omega
                    · right; exact hd)
end HOP
theorem st21 : St21 Rel := by
  intro a1 a2 w ⟨h, s, g2, g3, q, R, G⟩
  by_cases c1 : 0 ≤ a1 ∧ a1 ≤ h 0 4 - 1
  · by_cases c2 : 0 ≤ a2 ∧ a2 ≤ 40
    · have hc := c1
      rw [(Wf_grl G.1).2] at hc
      obtain ⟨d, hd, rfl⟩ := (in_iff (by have := Wf_grl G.1; omega)).mp hc
      have hd6 : d < 6 := by have := Wf_grl G.1; omega
      have c2' := c2
      obtain ⟨n, -, hn, rfl⟩ := btw (m := 0) (n := 40) rfl rfl (by omega) (by omega) c2'
      obtain ⟨u, hu⟩ := K_dls R G.1 hd6 hd (n := n) (by omega)
      obtain ⟨em, bm⟩ := mN_e G.1 hd6
      obtain ⟨eD, bD⟩ := dN_e G.1 hd6
      have du := dls_up d n (h 0) (dN (h 0) d) 0 (by omega) bD
      have ml := fun (w : A_W) (M : MM w h s) => M_hope_loop M G.1 hd6 hd (n := n) (by omega) 99 FU (by omega) (by unfold FU; omega) (Or.inl du.2)
      have R1 := R.trial u
      have mpre : ∀ (w : A_W) (M : MM w h s) (r : Int32 × A_W), F_M_hopeFor_43 FU 49 (nI d) (nI n) (nI (mN (h 0) d)) (-1) 99 (mW w 2 (cpR (h 0) (h 2))) = some r → F_M_hopeFor 49 (nI d) (nI n) w = some r := by
        intro w M r hr
        have h1 := M.set (a := 2) (by omega) (cpR (h 0) (h 2))
        have hh := M_her h1 hd6 (e := 2) (x := nI d) (y := 2) (by omega) rfl rfl
        rw [hset_ne _ _ (by omega), show 59 + 3 * d + 2 = 61 + 3 * d by omega, em] at hh
        unfold F_M_hopeFor F_M_hopeFor_0
        rw [M.ob_, Option.bind_some, M_isGirl M, Option.bind_some]
        dsimp only
        rw [if_neg (bI_y c1), M_in, Option.bind_some]
        dsimp only
        rw [if_neg (bI_y c2), M.ob_, Option.bind_some, M_thinks M, Option.bind_some, h1.ob_, Option.bind_some, hh, Option.bind_some]
        exact hr
      by_cases c3 : 0 < dls d n (h 0) (dN (h 0) d) 0 ∧ mN (h 0) d < 9999
      · refine SP_tr R G (t := u) (r1 := nI (dls d n (h 0) (dN (h 0) d) 0)) (r2 := nI (dls d n (h 0) (dN (h 0) d) 0)) ?_ (fun M => ?_) rfl
        · unfold F_K_hopeFor F_K_hopeFor_0 F_K_hopeFor_62
          simp only [K_within, K_isHanger, K_isKind, K_isSpot, K_isSheet, R_hasDeposit R.2.2.1, R_hasGirl R.2.2.1, R.kg0, R.kg1, R.kob, R.2.2.1.ob_, Option.bind_some, bI_0]
          rw [if_neg (fun z => z c1), if_neg (fun z => z c2)]
          simp only [K_within, K_isHanger, K_isKind, K_isSpot, K_isSheet, R_hasDeposit R.2.2.1, R_hasGirl R.2.2.1, R.kg0, R.kg1, R.kob, R.2.2.1.ob_, Option.bind_some, bI_0, hu]
          rw [if_neg (nI_ne0 c3.1 (by omega))]
          simp only [R1.kg0, Option.bind_some, R1.2.2.1.a_gr14, R1.2.2.1.a_rd_met hd6 rfl, em]
          rw [if_pos (show nI (mN (h 0) d) < 9999 from nI_lt (b := 9999) c3.2 (by omega))]
        · have m1 := ml _ M
          rw [if_pos c3] at m1
          exact mpre _ M _ m1
      · refine SP_trf R G (i := 3) (t := u) (r1 := (-1000001) - 3) (r2 := (-1000004)) ?_ (fun M => ?_) (by decide)
        · have e53 : F_K_hopeFor_53 0 (rW w 13 u) = some ((-1000001) - 3, fW (rW w 13 u) (bmp h 3)) := by
            unfold F_K_hopeFor_53 F_K_hopeFor_62
            simp only [R1.kob, Option.bind_some, K_finding R1 (i := 3) (x := 3) (by omega) rfl]
          unfold F_K_hopeFor F_K_hopeFor_0
          simp only [K_within, K_isHanger, K_isKind, K_isSpot, K_isSheet, R_hasDeposit R.2.2.1, R_hasGirl R.2.2.1, R.kg0, R.kg1, R.kob, R.2.2.1.ob_, Option.bind_some, bI_0]
          rw [if_neg (fun z => z c1), if_neg (fun z => z c2)]
          simp only [K_within, K_isHanger, K_isKind, K_isSpot, K_isSheet, R_hasDeposit R.2.2.1, R_hasGirl R.2.2.1, R.kg0, R.kg1, R.kob, R.2.2.1.ob_, Option.bind_some, bI_0, hu]
          by_cases c4 : dls d n (h 0) (dN (h 0) d) 0 = 0
          · rw [if_pos (by rw [c4]; rfl)]; exact e53
          · rw [if_neg (nI_ne0 (by omega) (by omega))]
            simp only [R1.kg0, Option.bind_some, R1.2.2.1.a_gr14, R1.2.2.1.a_rd_met hd6 rfl, em]
            rw [if_neg (show ¬ nI (mN (h 0) d) < 9999 from nI_nlt (b := 9999) (by omega) (by omega))]; exact e53
        · have m1 := ml _ M
          rw [if_neg c3] at m1
          exact mpre _ M _ m1
    · refine SP_fd R G (i := 0) (r1 := (-1000001) - 0) (r2 := (-1000001)) ?_ (fun M => ?_) (by decide)
      · unfold F_K_hopeFor F_K_hopeFor_0 F_K_hopeFor_21
        simp only [K_within, K_isHanger, K_isKind, K_isSpot, K_isSheet, R_hasDeposit R.2.2.1, R_hasGirl R.2.2.1, R.kg0, R.kg1, R.kob, R.2.2.1.ob_, Option.bind_some, bI_0]
        rw [if_neg (fun z => z c1), if_pos c2]
        simp only [K_within, K_isHanger, K_isKind, K_isSpot, K_isSheet, R_hasDeposit R.2.2.1, R_hasGirl R.2.2.1, R.kg0, R.kg1, R.kob, R.2.2.1.ob_, Option.bind_some, bI_0, K_finding R (i := 0) (x := 0) (by omega) rfl]
      · unfold F_M_hopeFor F_M_hopeFor_0 F_M_hopeFor_18
        simp only [M_in, M_isHanger, M_isPlace, M_isDeposit M, M_isGirl M, M.ob_, M.gr0, Option.bind_some, bI_0]
        rw [if_neg (fun z => z c1), if_pos c2]
        simp only [M_in, M_isHanger, M_isPlace, M_isDeposit M, M_isGirl M, M.ob_, M.gr0, Option.bind_some, bI_0, M_finds M (i := 0) (v := (-1000001)) (by omega) (by decide)]
  · refine SP_fd R G (i := 0) (r1 := (-1000001) - 0) (r2 := (-1000001)) ?_ (fun M => ?_) (by decide)
    · unfold F_K_hopeFor F_K_hopeFor_0 F_K_hopeFor_21
      simp only [K_within, K_isHanger, K_isKind, K_isSpot, K_isSheet, R_hasDeposit R.2.2.1, R_hasGirl R.2.2.1, R.kg0, R.kg1, R.kob, R.2.2.1.ob_, Option.bind_some, bI_0]
      rw [if_pos c1]
      simp only [K_within, K_isHanger, K_isKind, K_isSpot, K_isSheet, R_hasDeposit R.2.2.1, R_hasGirl R.2.2.1, R.kg0, R.kg1, R.kob, R.2.2.1.ob_, Option.bind_some, bI_0, K_finding R (i := 0) (x := 0) (by omega) rfl]
    · unfold F_M_hopeFor F_M_hopeFor_0 F_M_hopeFor_18
      simp only [M_in, M_isHanger, M_isPlace, M_isDeposit M, M_isGirl M, M.ob_, M.gr0, Option.bind_some, bI_0]
      rw [if_pos c1]
      simp only [M_in, M_isHanger, M_isPlace, M_isDeposit M, M_isGirl M, M.ob_, M.gr0, Option.bind_some, bI_0, M_finds M (i := 0) (v := (-1000001)) (by omega) (by decide)]
