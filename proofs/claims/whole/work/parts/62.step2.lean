theorem st8 : St8 Rel := by
  intro a1 w ⟨h, s, g2, g3, q, R, G⟩
  by_cases c1 : 0 ≤ a1 ∧ a1 ≤ 15
  · obtain ⟨k, -, hk, rfl⟩ := btw (m := 0) (n := 15) rfl rfl (by omega) (by omega) c1
    have M := R.1
    refine SP_id R G (r1 := lgt (h 0) (nI k)) (r2 := lgt (h 0) (nI k)) ?_ ?_ rfl
    · unfold F_K_light F_K_light_0 F_K_light_23
      simp only [K_within, K_isHanger, K_isKind, K_isSpot, K_isSheet, R_hasDeposit R.2.2.1, R_hasGirl R.2.2.1, R.kg0, R.kg1, R.kob, R.2.2.1.ob_, Option.bind_some, bI_0]
      rw [if_neg (fun z => z c1)]
      simp only [K_within, K_isHanger, K_isKind, K_isSpot, K_isSheet, R_hasDeposit R.2.2.1, R_hasGirl R.2.2.1, R.kg0, R.kg1, R.kob, R.2.2.1.ob_, Option.bind_some, bI_0, R_lightAt R.2.2.1 G.1 (hh := k) (by omega) rfl]
    · unfold F_M_light F_M_light_0 F_M_light_21
      simp only [M_in, M_isHanger, M_isPlace, M_isDeposit M, M_isGirl M, M.ob_, M.gr0, Option.bind_some, bI_0]
      rw [if_neg (fun z => z c1)]
      simp only [M_in, M_isHanger, M_isPlace, M_isDeposit M, M_isGirl M, M.ob_, M.gr0, Option.bind_some, bI_0, M_lightAt M G.1]
  · refine SP_fd R G (i := 0) (r1 := (-1000001) - 0) (r2 := (-1000001)) ?_ (fun M => ?_) (by decide)
    · unfold F_K_light F_K_light_0 F_K_light_23
      simp only [K_within, K_isHanger, K_isKind, K_isSpot, K_isSheet, R_hasDeposit R.2.2.1, R_hasGirl R.2.2.1, R.kg0, R.kg1, R.kob, R.2.2.1.ob_, Option.bind_some, bI_0]
      rw [if_pos c1]
      simp only [K_within, K_isHanger, K_isKind, K_isSpot, K_isSheet, R_hasDeposit R.2.2.1, R_hasGirl R.2.2.1, R.kg0, R.kg1, R.kob, R.2.2.1.ob_, Option.bind_some, bI_0, K_finding R (i := 0) (x := 0) (by omega) rfl]
    · unfold F_M_light F_M_light_0 F_M_light_21
      simp only [M_in, M_isHanger, M_isPlace, M_isDeposit M, M_isGirl M, M.ob_, M.gr0, Option.bind_some, bI_0]
      rw [if_pos c1]
      simp only [M_in, M_isHanger, M_isPlace, M_isDeposit M, M_isGirl M, M.ob_, M.gr0, Option.bind_some, bI_0, M_finds M (i := 0) (v := (-1000001)) (by omega) (by decide)]
theorem R_dRow0 {w : A_W} {g : Nat → Int32} (hR : RC w 1 g) : F_R_depositRow 1 (nI 0) w = some (3, w) := by
  unfold F_R_depositRow F_R_depositRow_0
  rw [if_pos (by decide)]
  simp only [hR.a_gr6, Option.bind_some]
theorem M_mOf0 (w : A_W) : F_M_mostOf (nI 0) w = some (6, w) := by
  unfold F_M_mostOf F_M_mostOf_0 F_M_mostOf_52
  rw [if_pos (by decide)]
theorem R_dRow1 {w : A_W} {g : Nat → Int32} (hR : RC w 1 g) : F_R_depositRow 1 (nI 1) w = some (4, w) := by
  unfold F_R_depositRow F_R_depositRow_0
  rw [if_neg (by decide), if_pos (by decide)]
  simp only [hR.a_gr7, Option.bind_some]
theorem M_mOf1 (w : A_W) : F_M_mostOf (nI 1) w = some (15, w) := by
  unfold F_M_mostOf F_M_mostOf_0 F_M_mostOf_52
  rw [if_neg (by decide), if_pos (by decide)]
theorem R_dRow2 {w : A_W} {g : Nat → Int32} (hR : RC w 1 g) : F_R_depositRow 1 (nI 2) w = some (5, w) := by
  unfold F_R_depositRow F_R_depositRow_0
  rw [if_neg (by decide), if_neg (by decide), if_pos (by decide)]
  simp only [hR.a_gr8, Option.bind_some]
theorem M_mOf2 (w : A_W) : F_M_mostOf (nI 2) w = some (99, w) := by
  unfold F_M_mostOf F_M_mostOf_0 F_M_mostOf_52
  rw [if_neg (by decide), if_neg (by decide), if_pos (by decide)]
theorem R_dRow3 {w : A_W} {g : Nat → Int32} (hR : RC w 1 g) : F_R_depositRow 1 (nI 3) w = some (6, w) := by
  unfold F_R_depositRow F_R_depositRow_0
  rw [if_neg (by decide), if_neg (by decide), if_neg (by decide), if_pos (by decide)]
  simp only [hR.a_gr9, Option.bind_some]
theorem M_mOf3 (w : A_W) : F_M_mostOf (nI 3) w = some (9999, w) := by
  unfold F_M_mostOf F_M_mostOf_0 F_M_mostOf_52
  rw [if_neg (by decide), if_neg (by decide), if_neg (by decide), if_pos (by decide)]
theorem R_dRow4 {w : A_W} {g : Nat → Int32} (hR : RC w 1 g) : F_R_depositRow 1 (nI 4) w = some (7, w) := by
  unfold F_R_depositRow F_R_depositRow_0
  rw [if_neg (by decide), if_neg (by decide), if_neg (by decide), if_neg (by decide), if_pos (by decide)]
  simp only [hR.a_gr10, Option.bind_some]
theorem M_mOf4 (w : A_W) : F_M_mostOf (nI 4) w = some (99, w) := by
  unfold F_M_mostOf F_M_mostOf_0 F_M_mostOf_52
  rw [if_neg (by decide), if_neg (by decide), if_neg (by decide), if_neg (by decide), if_pos (by decide)]
theorem R_dRow5 {w : A_W} {g : Nat → Int32} (hR : RC w 1 g) : F_R_depositRow 1 (nI 5) w = some (8, w) := by
  unfold F_R_depositRow F_R_depositRow_0
  rw [if_neg (by decide), if_neg (by decide), if_neg (by decide), if_neg (by decide), if_neg (by decide)]
  simp only [hR.a_gr11, Option.bind_some]
theorem M_mOf5 (w : A_W) : F_M_mostOf (nI 5) w = some (1, w) := by
  unfold F_M_mostOf F_M_mostOf_0 F_M_mostOf_52
  rw [if_neg (by decide), if_neg (by decide), if_neg (by decide), if_neg (by decide), if_neg (by decide), if_pos (by decide)]
theorem R_gRow0 {w : A_W} {g : Nat → Int32} (hR : RC w 1 g) : F_R_girlRow 1 (nI 0) w = some (9, w) := by
  unfold F_R_girlRow F_R_girlRow_0
  rw [if_pos (by decide)]
  simp only [hR.a_gr12, Option.bind_some]
theorem R_gRow1 {w : A_W} {g : Nat → Int32} (hR : RC w 1 g) : F_R_girlRow 1 (nI 1) w = some (10, w) := by
  unfold F_R_girlRow F_R_girlRow_0
  rw [if_neg (by decide), if_pos (by decide)]
  simp only [hR.a_gr13, Option.bind_some]
theorem R_gRow2 {w : A_W} {g : Nat → Int32} (hR : RC w 1 g) : F_R_girlRow 1 (nI 2) w = some (11, w) := by
  unfold F_R_girlRow F_R_girlRow_0
  rw [if_neg (by decide), if_neg (by decide)]
  simp only [hR.a_gr14, Option.bind_some]
theorem st4 : St4 Rel := by
  intro a1 a2 w ⟨h, s, g2, g3, q, R, G⟩
  by_cases c1 : 0 ≤ a1 ∧ a1 ≤ h 0 3 - 1
  · by_cases c2 : 0 ≤ a2 ∧ a2 ≤ 9
    · have M := R.1
      have hc := c1
      rw [(Wf_dep G.1).2] at hc
      obtain ⟨d, hd, rfl⟩ := (in_iff (by have := Wf_dep G.1; omega)).mp hc
      have hd8 : d < 8 := by have := Wf_dep G.1; omega
      obtain ⟨k, -, hk, rfl⟩ := btw (m := 0) (n := 9) rfl rfl (by omega) (by omega) c2
      rcases (show k = 0 ∨ k = 1 ∨ k = 2 ∨ k = 3 ∨ k = 4 ∨ k = 5 ∨ k = 6 ∨ k = 7 ∨ k = 8 ∨ k = 9 by omega) with rfl | rfl | rfl | rfl | rfl | rfl | rfl | rfl | rfl | rfl
      · refine SP_id R G (r1 := h 0 (11 + 6 * d)) (r2 := h 0 (11 + 6 * d)) ?_ ?_ rfl
        · unfold F_K_of F_K_of_0 F_R_tellOf F_R_tellOf_0
          simp only [K_within, K_isHanger, K_isKind, K_isSpot, K_isSheet, R_hasDeposit R.2.2.1, R_hasGirl R.2.2.1, R.kg0, R.kg1, R.kob, R.2.2.1.ob_, Option.bind_some, bI_0]
          rw [if_neg (fun z => z c1), if_neg (fun z => z c2), if_neg (by decide), if_neg (by decide), if_neg (by decide), if_neg (by decide)]
          simp only [K_within, K_isHanger, K_isKind, K_isSpot, K_isSheet, R_hasDeposit R.2.2.1, R_hasGirl R.2.2.1, R.kg0, R.kg1, R.kob, R.2.2.1.ob_, Option.bind_some, bI_0, R_dRow0 R.2.2.1, R.2.2.1.a_rd_kind hd8 rfl]
        · unfold F_M_of F_M_of_0
          simp only [M_in, M_isHanger, M_isPlace, M_isDeposit M, M_isGirl M, M.ob_, M.gr0, Option.bind_some, bI_0]
          rw [if_neg (fun z => z c1), if_neg (fun z => z c2), if_neg (by decide), if_neg (by decide), if_neg (by decide), if_neg (by decide)]
          simp only [M_in, M_isHanger, M_isPlace, M_isDeposit M, M_isGirl M, M.ob_, M.gr0, Option.bind_some, bI_0, M_it M hd8 (e := 0) (by omega) rfl rfl]
          rfl
      · refine SP_id R G (r1 := h 0 (12 + 6 * d)) (r2 := h 0 (12 + 6 * d)) ?_ ?_ rfl
        · unfold F_K_of F_K_of_0 F_R_tellOf F_R_tellOf_0
          simp only [K_within, K_isHanger, K_isKind, K_isSpot, K_isSheet, R_hasDeposit R.2.2.1, R_hasGirl R.2.2.1, R.kg0, R.kg1, R.kob, R.2.2.1.ob_, Option.bind_some, bI_0]
          rw [if_neg (fun z => z c1), if_neg (fun z => z c2), if_neg (by decide), if_neg (by decide), if_neg (by decide), if_neg (by decide)]
          simp only [K_within, K_isHanger, K_isKind, K_isSpot, K_isSheet, R_hasDeposit R.2.2.1, R_hasGirl R.2.2.1, R.kg0, R.kg1, R.kob, R.2.2.1.ob_, Option.bind_some, bI_0, R_dRow1 R.2.2.1, R.2.2.1.a_rd_hanger hd8 rfl]
        · unfold F_M_of F_M_of_0
          simp only [M_in, M_isHanger, M_isPlace, M_isDeposit M, M_isGirl M, M.ob_, M.gr0, Option.bind_some, bI_0]
          rw [if_neg (fun z => z c1), if_neg (fun z => z c2), if_neg (by decide), if_neg (by decide), if_neg (by decide), if_neg (by decide)]
          simp only [M_in, M_isHanger, M_isPlace, M_isDeposit M, M_isGirl M, M.ob_, M.gr0, Option.bind_some, bI_0, M_it M hd8 (e := 1) (by omega) rfl rfl]
          rw [show 11 + 6 * d + 1 = 12 + 6 * d by omega]
      · refine SP_id R G (r1 := h 0 (13 + 6 * d)) (r2 := h 0 (13 + 6 * d)) ?_ ?_ rfl
        · unfold F_K_of F_K_of_0 F_R_tellOf F_R_tellOf_0
          simp only [K_within, K_isHanger, K_isKind, K_isSpot, K_isSheet, R_hasDeposit R.2.2.1, R_hasGirl R.2.2.1, R.kg0, R.kg1, R.kob, R.2.2.1.ob_, Option.bind_some, bI_0]
          rw [if_neg (fun z => z c1), if_neg (fun z => z c2), if_neg (by decide), if_neg (by decide), if_neg (by decide), if_neg (by decide)]
          simp only [K_within, K_isHanger, K_isKind, K_isSpot, K_isSheet, R_hasDeposit R.2.2.1, R_hasGirl R.2.2.1, R.kg0, R.kg1, R.kob, R.2.2.1.ob_, Option.bind_some, bI_0, R_dRow2 R.2.2.1, R.2.2.1.a_rd_stub hd8 rfl]
        · unfold F_M_of F_M_of_0
          simp only [M_in, M_isHanger, M_isPlace, M_isDeposit M, M_isGirl M, M.ob_, M.gr0, Option.bind_some, bI_0]
          rw [if_neg (fun z => z c1), if_neg (fun z => z c2), if_neg (by decide), if_neg (by decide), if_neg (by decide), if_neg (by decide)]
          simp only [M_in, M_isHanger, M_isPlace, M_isDeposit M, M_isGirl M, M.ob_, M.gr0, Option.bind_some, bI_0, M_it M hd8 (e := 2) (by omega) rfl rfl]
          rw [show 11 + 6 * d + 2 = 13 + 6 * d by omega]
      · refine SP_id R G (r1 := h 0 (14 + 6 * d)) (r2 := h 0 (14 + 6 * d)) ?_ ?_ rfl
        · unfold F_K_of F_K_of_0 F_R_tellOf F_R_tellOf_0
          simp only [K_within, K_isHanger, K_isKind, K_isSpot, K_isSheet, R_hasDeposit R.2.2.1, R_hasGirl R.2.2.1, R.kg0, R.kg1, R.kob, R.2.2.1.ob_, Option.bind_some, bI_0]
          rw [if_neg (fun z => z c1), if_neg (fun z => z c2), if_neg (by decide), if_neg (by decide), if_neg (by decide), if_neg (by decide)]
          simp only [K_within, K_isHanger, K_isKind, K_isSpot, K_isSheet, R_hasDeposit R.2.2.1, R_hasGirl R.2.2.1, R.kg0, R.kg1, R.kob, R.2.2.1.ob_, Option.bind_some, bI_0, R_dRow3 R.2.2.1, R.2.2.1.a_rd_kept hd8 rfl]
        · unfold F_M_of F_M_of_0
          simp only [M_in, M_isHanger, M_isPlace, M_isDeposit M, M_isGirl M, M.ob_, M.gr0, Option.bind_some, bI_0]
          rw [if_neg (fun z => z c1), if_neg (fun z => z c2), if_neg (by decide), if_neg (by decide), if_neg (by decide), if_neg (by decide)]
          simp only [M_in, M_isHanger, M_isPlace, M_isDeposit M, M_isGirl M, M.ob_, M.gr0, Option.bind_some, bI_0, M_it M hd8 (e := 3) (by omega) rfl rfl]
          rw [show 11 + 6 * d + 3 = 14 + 6 * d by omega]
      · refine SP_id R G (r1 := h 0 (15 + 6 * d)) (r2 := h 0 (15 + 6 * d)) ?_ ?_ rfl
        · unfold F_K_of F_K_of_0 F_R_tellOf F_R_tellOf_0
          simp only [K_within, K_isHanger, K_isKind, K_isSpot, K_isSheet, R_hasDeposit R.2.2.1, R_hasGirl R.2.2.1, R.kg0, R.kg1, R.kob, R.2.2.1.ob_, Option.bind_some, bI_0]
          rw [if_neg (fun z => z c1), if_neg (fun z => z c2), if_neg (by decide), if_neg (by decide), if_neg (by decide), if_neg (by decide)]
          simp only [K_within, K_isHanger, K_isKind, K_isSpot, K_isSheet, R_hasDeposit R.2.2.1, R_hasGirl R.2.2.1, R.kg0, R.kg1, R.kob, R.2.2.1.ob_, Option.bind_some, bI_0, R_dRow4 R.2.2.1, R.2.2.1.a_rd_worn hd8 rfl]
        · unfold F_M_of F_M_of_0
          simp only [M_in, M_isHanger, M_isPlace, M_isDeposit M, M_isGirl M, M.ob_, M.gr0, Option.bind_some, bI_0]
          rw [if_neg (fun z => z c1), if_neg (fun z => z c2), if_neg (by decide), if_neg (by decide), if_neg (by decide), if_neg (by decide)]
          simp only [M_in, M_isHanger, M_isPlace, M_isDeposit M, M_isGirl M, M.ob_, M.gr0, Option.bind_some, bI_0, M_it M hd8 (e := 4) (by omega) rfl rfl]
          rw [show 11 + 6 * d + 4 = 15 + 6 * d by omega]
      · refine SP_id R G (r1 := h 0 (16 + 6 * d)) (r2 := h 0 (16 + 6 * d)) ?_ ?_ rfl
        · unfold F_K_of F_K_of_0 F_R_tellOf F_R_tellOf_0
          simp only [K_within, K_isHanger, K_isKind, K_isSpot, K_isSheet, R_hasDeposit R.2.2.1, R_hasGirl R.2.2.1, R.kg0, R.kg1, R.kob, R.2.2.1.ob_, Option.bind_some, bI_0]
          rw [if_neg (fun z => z c1), if_neg (fun z => z c2), if_neg (by decide), if_neg (by decide), if_neg (by decide), if_neg (by decide)]
          simp only [K_within, K_isHanger, K_isKind, K_isSpot, K_isSheet, R_hasDeposit R.2.2.1, R_hasGirl R.2.2.1, R.kg0, R.kg1, R.kob, R.2.2.1.ob_, Option.bind_some, bI_0, R_dRow5 R.2.2.1, R.2.2.1.a_rd_out hd8 rfl]
        · unfold F_M_of F_M_of_0
          simp only [M_in, M_isHanger, M_isPlace, M_isDeposit M, M_isGirl M, M.ob_, M.gr0, Option.bind_some, bI_0]
          rw [if_neg (fun z => z c1), if_neg (fun z => z c2), if_neg (by decide), if_neg (by decide), if_neg (by decide), if_neg (by decide)]
          simp only [M_in, M_isHanger, M_isPlace, M_isDeposit M, M_isGirl M, M.ob_, M.gr0, Option.bind_some, bI_0, M_it M hd8 (e := 5) (by omega) rfl rfl]
          rw [show 11 + 6 * d + 5 = 16 + 6 * d by omega]
      · refine SP_id R G (r1 := shn (h 0) d) (r2 := shn (h 0) d) ?_ ?_ rfl
        · unfold F_K_of F_K_of_0 F_R_tellOf F_R_tellOf_0
          simp only [K_within, K_isHanger, K_isKind, K_isSpot, K_isSheet, R_hasDeposit R.2.2.1, R_hasGirl R.2.2.1, R.kg0, R.kg1, R.kob, R.2.2.1.ob_, Option.bind_some, bI_0]
          rw [if_neg (fun z => z c1), if_neg (fun z => z c2), if_pos (by decide)]
          simp only [K_within, K_isHanger, K_isKind, K_isSpot, K_isSheet, R_hasDeposit R.2.2.1, R_hasGirl R.2.2.1, R.kg0, R.kg1, R.kob, R.2.2.1.ob_, Option.bind_some, bI_0, R_shineOf R.2.2.1 G.1 hd8 rfl]
        · unfold F_M_of F_M_of_0
          simp only [M_in, M_isHanger, M_isPlace, M_isDeposit M, M_isGirl M, M.ob_, M.gr0, Option.bind_some, bI_0]
          rw [if_neg (fun z => z c1), if_neg (fun z => z c2), if_pos (by decide)]
          simp only [M_in, M_isHanger, M_isPlace, M_isDeposit M, M_isGirl M, M.ob_, M.gr0, Option.bind_some, bI_0, M_shines M hd8 rfl]
      · refine SP_id R G (r1 := rch (h 0) d) (r2 := rch (h 0) d) ?_ ?_ rfl
        · unfold F_K_of F_K_of_0 F_R_tellOf F_R_tellOf_0
          simp only [K_within, K_isHanger, K_isKind, K_isSpot, K_isSheet, R_hasDeposit R.2.2.1, R_hasGirl R.2.2.1, R.kg0, R.kg1, R.kob, R.2.2.1.ob_, Option.bind_some, bI_0]
          rw [if_neg (fun z => z c1), if_neg (fun z => z c2), if_neg (by decide), if_pos (by decide)]
          simp only [K_within, K_isHanger, K_isKind, K_isSpot, K_isSheet, R_hasDeposit R.2.2.1, R_hasGirl R.2.2.1, R.kg0, R.kg1, R.kob, R.2.2.1.ob_, Option.bind_some, bI_0, R_reachOf R.2.2.1 hd8 rfl]
        · unfold F_M_of F_M_of_0
          simp only [M_in, M_isHanger, M_isPlace, M_isDeposit M, M_isGirl M, M.ob_, M.gr0, Option.bind_some, bI_0]
          rw [if_neg (fun z => z c1), if_neg (fun z => z c2), if_neg (by decide), if_pos (by decide)]
          simp only [M_in, M_isHanger, M_isPlace, M_isDeposit M, M_isGirl M, M.ob_, M.gr0, Option.bind_some, bI_0, M_reaches M hd8 rfl]
      · refine SP_id R G (r1 := wrs (h 0) d) (r2 := wrs (h 0) d) ?_ ?_ rfl
        · unfold F_K_of F_K_of_0 F_R_tellOf F_R_tellOf_0
          simp only [K_within, K_isHanger, K_isKind, K_isSpot, K_isSheet, R_hasDeposit R.2.2.1, R_hasGirl R.2.2.1, R.kg0, R.kg1, R.kob, R.2.2.1.ob_, Option.bind_some, bI_0]
          rw [if_neg (fun z => z c1), if_neg (fun z => z c2), if_neg (by decide), if_neg (by decide), if_pos (by decide)]
          simp only [K_within, K_isHanger, K_isKind, K_isSpot, K_isSheet, R_hasDeposit R.2.2.1, R_hasGirl R.2.2.1, R.kg0, R.kg1, R.kob, R.2.2.1.ob_, Option.bind_some, bI_0, R_wearOf R.2.2.1 G.1 hd8 rfl]
        · unfold F_M_of F_M_of_0
          simp only [M_in, M_isHanger, M_isPlace, M_isDeposit M, M_isGirl M, M.ob_, M.gr0, Option.bind_some, bI_0]
          rw [if_neg (fun z => z c1), if_neg (fun z => z c2), if_neg (by decide), if_neg (by decide), if_pos (by decide)]
          simp only [M_in, M_isHanger, M_isPlace, M_isDeposit M, M_isGirl M, M.ob_, M.gr0, Option.bind_some, bI_0, M_wears M G.1 hd8 rfl]
      · refine SP_id R G (r1 := cst (h 0) d) (r2 := cst (h 0) d) ?_ ?_ rfl
        · unfold F_K_of F_K_of_0 F_R_tellOf F_R_tellOf_0
          simp only [K_within, K_isHanger, K_isKind, K_isSpot, K_isSheet, R_hasDeposit R.2.2.1, R_hasGirl R.2.2.1, R.kg0, R.kg1, R.kob, R.2.2.1.ob_, Option.bind_some, bI_0]
          rw [if_neg (fun z => z c1), if_neg (fun z => z c2), if_neg (by decide), if_neg (by decide), if_neg (by decide), if_pos (by decide)]
          simp only [K_within, K_isHanger, K_isKind, K_isSpot, K_isSheet, R_hasDeposit R.2.2.1, R_hasGirl R.2.2.1, R.kg0, R.kg1, R.kob, R.2.2.1.ob_, Option.bind_some, bI_0, R_costOf R.2.2.1 G.1 hd8 rfl]
        · unfold F_M_of F_M_of_0
          simp only [M_in, M_isHanger, M_isPlace, M_isDeposit M, M_isGirl M, M.ob_, M.gr0, Option.bind_some, bI_0]
          rw [if_neg (fun z => z c1), if_neg (fun z => z c2), if_neg (by decide), if_neg (by decide), if_neg (by decide), if_pos (by decide)]
          simp only [M_in, M_isHanger, M_isPlace, M_isDeposit M, M_isGirl M, M.ob_, M.gr0, Option.bind_some, bI_0, M_costs M hd8 rfl]
    · refine SP_fd R G (i := 0) (r1 := (-1000001) - 0) (r2 := (-1000001)) ?_ (fun M => ?_) (by decide)
      · unfold F_K_of F_K_of_0 F_K_of_21
        simp only [K_within, K_isHanger, K_isKind, K_isSpot, K_isSheet, R_hasDeposit R.2.2.1, R_hasGirl R.2.2.1, R.kg0, R.kg1, R.kob, R.2.2.1.ob_, Option.bind_some, bI_0]
        rw [if_neg (fun z => z c1), if_pos c2]
        simp only [K_within, K_isHanger, K_isKind, K_isSpot, K_isSheet, R_hasDeposit R.2.2.1, R_hasGirl R.2.2.1, R.kg0, R.kg1, R.kob, R.2.2.1.ob_, Option.bind_some, bI_0, K_finding R (i := 0) (x := 0) (by omega) rfl]
      · unfold F_M_of F_M_of_0 F_M_of_18
        simp only [M_in, M_isHanger, M_isPlace, M_isDeposit M, M_isGirl M, M.ob_, M.gr0, Option.bind_some, bI_0]
        rw [if_neg (fun z => z c1), if_pos c2]
        simp only [M_in, M_isHanger, M_isPlace, M_isDeposit M, M_isGirl M, M.ob_, M.gr0, Option.bind_some, bI_0, M_finds M (i := 0) (v := (-1000001)) (by omega) (by decide)]
  · refine SP_fd R G (i := 0) (r1 := (-1000001) - 0) (r2 := (-1000001)) ?_ (fun M => ?_) (by decide)
    · unfold F_K_of F_K_of_0 F_K_of_21
      simp only [K_within, K_isHanger, K_isKind, K_isSpot, K_isSheet, R_hasDeposit R.2.2.1, R_hasGirl R.2.2.1, R.kg0, R.kg1, R.kob, R.2.2.1.ob_, Option.bind_some, bI_0]
      rw [if_pos c1]
      simp only [K_within, K_isHanger, K_isKind, K_isSpot, K_isSheet, R_hasDeposit R.2.2.1, R_hasGirl R.2.2.1, R.kg0, R.kg1, R.kob, R.2.2.1.ob_, Option.bind_some, bI_0, K_finding R (i := 0) (x := 0) (by omega) rfl]
    · unfold F_M_of F_M_of_0 F_M_of_18
      simp only [M_in, M_isHanger, M_isPlace, M_isDeposit M, M_isGirl M, M.ob_, M.gr0, Option.bind_some, bI_0]
      rw [if_pos c1]
      simp only [M_in, M_isHanger, M_isPlace, M_isDeposit M, M_isGirl M, M.ob_, M.gr0, Option.bind_some, bI_0, M_finds M (i := 0) (v := (-1000001)) (by omega) (by decide)]
theorem st6 : St6 Rel := by
  intro a1 a2 w ⟨h, s, g2, g3, q, R, G⟩
  by_cases c1 : 0 ≤ a1 ∧ a1 ≤ h 0 4 - 1
  · by_cases c2 : 0 ≤ a2 ∧ a2 ≤ 2
    · have M := R.1
      have hc := c1
      rw [(Wf_grl G.1).2] at hc
      obtain ⟨d, hd, rfl⟩ := (in_iff (by have := Wf_grl G.1; omega)).mp hc
      have hd6 : d < 6 := by have := Wf_grl G.1; omega
      obtain ⟨k, -, hk, rfl⟩ := btw (m := 0) (n := 2) rfl rfl (by omega) (by omega) c2
      rcases (show k = 0 ∨ k = 1 ∨ k = 2 by omega) with rfl | rfl | rfl
      · refine SP_id R G (r1 := h 0 (59 + 3 * d)) (r2 := h 0 (59 + 3 * d)) ?_ ?_ rfl
        · unfold F_K_ofGirl F_K_ofGirl_0
          simp only [K_within, K_isHanger, K_isKind, K_isSpot, K_isSheet, R_hasDeposit R.2.2.1, R_hasGirl R.2.2.1, R.kg0, R.kg1, R.kob, R.2.2.1.ob_, Option.bind_some, bI_0]
          rw [if_neg (fun z => z c1), if_neg (fun z => z c2)]
          simp only [K_within, K_isHanger, K_isKind, K_isSpot, K_isSheet, R_hasDeposit R.2.2.1, R_hasGirl R.2.2.1, R.kg0, R.kg1, R.kob, R.2.2.1.ob_, Option.bind_some, bI_0, R_gRow0 R.2.2.1, R.2.2.1.a_rd_dream hd6 rfl]
        · unfold F_M_ofGirl F_M_ofGirl_0 F_M_ofGirl_32
          simp only [M_in, M_isHanger, M_isPlace, M_isDeposit M, M_isGirl M, M.ob_, M.gr0, Option.bind_some, bI_0]
          rw [if_neg (fun z => z c1), if_neg (fun z => z c2)]
          simp only [M_in, M_isHanger, M_isPlace, M_isDeposit M, M_isGirl M, M.ob_, M.gr0, Option.bind_some, bI_0, M_her M hd6 (e := 0) (by omega) rfl rfl]
          rfl
      · refine SP_id R G (r1 := h 0 (60 + 3 * d)) (r2 := h 0 (60 + 3 * d)) ?_ ?_ rfl
        · unfold F_K_ofGirl F_K_ofGirl_0
          simp only [K_within, K_isHanger, K_isKind, K_isSpot, K_isSheet, R_hasDeposit R.2.2.1, R_hasGirl R.2.2.1, R.kg0, R.kg1, R.kob, R.2.2.1.ob_, Option.bind_some, bI_0]
          rw [if_neg (fun z => z c1), if_neg (fun z => z c2)]
          simp only [K_within, K_isHanger, K_isKind, K_isSpot, K_isSheet, R_hasDeposit R.2.2.1, R_hasGirl R.2.2.1, R.kg0, R.kg1, R.kob, R.2.2.1.ob_, Option.bind_some, bI_0, R_gRow1 R.2.2.1, R.2.2.1.a_rd_hope hd6 rfl]
        · unfold F_M_ofGirl F_M_ofGirl_0 F_M_ofGirl_32
          simp only [M_in, M_isHanger, M_isPlace, M_isDeposit M, M_isGirl M, M.ob_, M.gr0, Option.bind_some, bI_0]
          rw [if_neg (fun z => z c1), if_neg (fun z => z c2)]
          simp only [M_in, M_isHanger, M_isPlace, M_isDeposit M, M_isGirl M, M.ob_, M.gr0, Option.bind_some, bI_0, M_her M hd6 (e := 1) (by omega) rfl rfl]
          rw [show 59 + 3 * d + 1 = 60 + 3 * d by omega]
      · refine SP_id R G (r1 := h 0 (61 + 3 * d)) (r2 := h 0 (61 + 3 * d)) ?_ ?_ rfl
        · unfold F_K_ofGirl F_K_ofGirl_0
          simp only [K_within, K_isHanger, K_isKind, K_isSpot, K_isSheet, R_hasDeposit R.2.2.1, R_hasGirl R.2.2.1, R.kg0, R.kg1, R.kob, R.2.2.1.ob_, Option.bind_some, bI_0]
          rw [if_neg (fun z => z c1), if_neg (fun z => z c2)]
          simp only [K_within, K_isHanger, K_isKind, K_isSpot, K_isSheet, R_hasDeposit R.2.2.1, R_hasGirl R.2.2.1, R.kg0, R.kg1, R.kob, R.2.2.1.ob_, Option.bind_some, bI_0, R_gRow2 R.2.2.1, R.2.2.1.a_rd_met hd6 rfl]
        · unfold F_M_ofGirl F_M_ofGirl_0 F_M_ofGirl_32
          simp only [M_in, M_isHanger, M_isPlace, M_isDeposit M, M_isGirl M, M.ob_, M.gr0, Option.bind_some, bI_0]
          rw [if_neg (fun z => z c1), if_neg (fun z => z c2)]
          simp only [M_in, M_isHanger, M_isPlace, M_isDeposit M, M_isGirl M, M.ob_, M.gr0, Option.bind_some, bI_0, M_her M hd6 (e := 2) (by omega) rfl rfl]
          rw [show 59 + 3 * d + 2 = 61 + 3 * d by omega]
    · refine SP_fd R G (i := 0) (r1 := (-1000001) - 0) (r2 := (-1000001)) ?_ (fun M => ?_) (by decide)
      · unfold F_K_ofGirl F_K_ofGirl_0 F_K_ofGirl_20
        simp only [K_within, K_isHanger, K_isKind, K_isSpot, K_isSheet, R_hasDeposit R.2.2.1, R_hasGirl R.2.2.1, R.kg0, R.kg1, R.kob, R.2.2.1.ob_, Option.bind_some, bI_0]
        rw [if_neg (fun z => z c1), if_pos c2]
        simp only [K_within, K_isHanger, K_isKind, K_isSpot, K_isSheet, R_hasDeposit R.2.2.1, R_hasGirl R.2.2.1, R.kg0, R.kg1, R.kob, R.2.2.1.ob_, Option.bind_some, bI_0, K_finding R (i := 0) (x := 0) (by omega) rfl]
      · unfold F_M_ofGirl F_M_ofGirl_0 F_M_ofGirl_26 F_M_ofGirl_32
        simp only [M_in, M_isHanger, M_isPlace, M_isDeposit M, M_isGirl M, M.ob_, M.gr0, Option.bind_some, bI_0]
        rw [if_neg (fun z => z c1), if_pos c2]
        simp only [M_in, M_isHanger, M_isPlace, M_isDeposit M, M_isGirl M, M.ob_, M.gr0, Option.bind_some, bI_0, M_finds M (i := 0) (v := (-1000001)) (by omega) (by decide)]
  · refine SP_fd R G (i := 0) (r1 := (-1000001) - 0) (r2 := (-1000001)) ?_ (fun M => ?_) (by decide)
    · unfold F_K_ofGirl F_K_ofGirl_0 F_K_ofGirl_20
      simp only [K_within, K_isHanger, K_isKind, K_isSpot, K_isSheet, R_hasDeposit R.2.2.1, R_hasGirl R.2.2.1, R.kg0, R.kg1, R.kob, R.2.2.1.ob_, Option.bind_some, bI_0]
      rw [if_pos c1]
      simp only [K_within, K_isHanger, K_isKind, K_isSpot, K_isSheet, R_hasDeposit R.2.2.1, R_hasGirl R.2.2.1, R.kg0, R.kg1, R.kob, R.2.2.1.ob_, Option.bind_some, bI_0, K_finding R (i := 0) (x := 0) (by omega) rfl]
    · unfold F_M_ofGirl F_M_ofGirl_0 F_M_ofGirl_26 F_M_ofGirl_32
      simp only [M_in, M_isHanger, M_isPlace, M_isDeposit M, M_isGirl M, M.ob_, M.gr0, Option.bind_some, bI_0]
      rw [if_pos c1]
      simp only [M_in, M_isHanger, M_isPlace, M_isDeposit M, M_isGirl M, M.ob_, M.gr0, Option.bind_some, bI_0, M_finds M (i := 0) (v := (-1000001)) (by omega) (by decide)]
theorem st5 : St5 Rel := by
  intro a1 a2 a3 w ⟨h, s, g2, g3, q, R, G⟩
  by_cases c1 : 0 ≤ a1 ∧ a1 ≤ h 0 3 - 1
  · by_cases c2 : 0 ≤ a2 ∧ a2 ≤ 5
    · have hc := c1
      rw [(Wf_dep G.1).2] at hc
      obtain ⟨d, hd, rfl⟩ := (in_iff (by have := Wf_dep G.1; omega)).mp hc
      have hd8 : d < 8 := by have := Wf_dep G.1; omega
      obtain ⟨k, -, hk, rfl⟩ := btw (m := 0) (n := 5) rfl rfl (by omega) (by omega) c2
      rcases (show k = 0 ∨ k = 1 ∨ k = 2 ∨ k = 3 ∨ k = 4 ∨ k = 5 by omega) with rfl | rfl | rfl | rfl | rfl | rfl
      · have e0 : rs 0 (nI 0) = some 6 := by decide
        by_cases c3 : 0 ≤ a3 ∧ a3 ≤ 6
        · obtain ⟨v, -, hv, rfl⟩ := btw (m := 0) (n := 6) rfl rfl (by omega) (by omega) c3
          refine SP_row R G (f := upd (h 0) (11 + 6 * d) (nI v)) ?_ (r1 := h 0 (11 + 6 * d)) (r2 := h 0 (11 + 6 * d)) ?_ (fun M => ?_) rfl
          · refine Wf_upd G.1 (by omega) (by omega) (fun _ => ?_) (fun _ _ => by omega)
            have hb := hiB_it d hd8 0 (by omega)
            rw [Nat.add_zero] at hb
            rw [hb, nI_toInt (by omega)]
            show 0 ≤ (v : Int) ∧ (v : Int) ≤ 6
            omega
          · unfold F_K_change F_K_change_0
            simp only [K_within, K_isHanger, K_isKind, K_isSpot, K_isSheet, R_hasDeposit R.2.2.1, R_hasGirl R.2.2.1, R.kg0, R.kg1, R.kob, R.2.2.1.ob_, Option.bind_some, bI_0, e0]
            rw [if_neg (fun z => z c1), if_neg (fun z => z c2), if_neg (fun z => z c3)]
            simp only [K_within, K_isHanger, K_isKind, K_isSpot, K_isSheet, R_hasDeposit R.2.2.1, R_hasGirl R.2.2.1, R.kg0, R.kg1, R.kob, R.2.2.1.ob_, Option.bind_some, bI_0, R_dRow0 R.2.2.1, R.2.2.1.a_rd_kind hd8 rfl, R.2.2.1.a_wr_kind hd8 rfl]
          · unfold F_M_change F_M_change_0 F_M_change_52
            simp only [M_in, M_isHanger, M_isPlace, M_isDeposit M, M_isGirl M, M.ob_, M.gr0, Option.bind_some, bI_0, M_mOf0]
            rw [if_neg (fun z => z c1), if_neg (fun z => z c2), if_neg (fun z => z c3)]
            have ex : (11 + (6 * nI d)) + nI 0 = nI (11 + 6 * d) := (n11 (d := d) (e := 0) rfl rfl).trans (by first | rfl | (congr 1; omega))
            rw [ex]
            simp only [M_in, M_isHanger, M_isPlace, M_isDeposit M, M_isGirl M, M.ob_, M.gr0, Option.bind_some, bI_0, M_becomes M (i := 11 + 6 * d) (by omega) rfl]
        · refine SP_fd R G (i := 0) (r1 := (-1000001) - 0) (r2 := (-1000001)) ?_ (fun M => ?_) (by decide)
          · unfold F_K_change F_K_change_0 F_K_change_33
            simp only [K_within, K_isHanger, K_isKind, K_isSpot, K_isSheet, R_hasDeposit R.2.2.1, R_hasGirl R.2.2.1, R.kg0, R.kg1, R.kob, R.2.2.1.ob_, Option.bind_some, bI_0, e0]
            rw [if_neg (fun z => z c1), if_neg (fun z => z c2), if_pos c3]
            simp only [K_within, K_isHanger, K_isKind, K_isSpot, K_isSheet, R_hasDeposit R.2.2.1, R_hasGirl R.2.2.1, R.kg0, R.kg1, R.kob, R.2.2.1.ob_, Option.bind_some, bI_0, e0, K_finding R (i := 0) (x := 0) (by omega) rfl]
          · unfold F_M_change F_M_change_0 F_M_change_46 F_M_change_52
            simp only [M_in, M_isHanger, M_isPlace, M_isDeposit M, M_isGirl M, M.ob_, M.gr0, Option.bind_some, bI_0, M_mOf0]
            rw [if_neg (fun z => z c1), if_neg (fun z => z c2), if_pos c3]
            simp only [M_in, M_isHanger, M_isPlace, M_isDeposit M, M_isGirl M, M.ob_, M.gr0, Option.bind_some, bI_0, M_mOf0, M_finds M (i := 0) (v := (-1000001)) (by omega) (by decide)]
      · have e0 : rs 0 (nI 1) = some 15 := by decide
        by_cases c3 : 0 ≤ a3 ∧ a3 ≤ 15
        · obtain ⟨v, -, hv, rfl⟩ := btw (m := 0) (n := 15) rfl rfl (by omega) (by omega) c3
          refine SP_row R G (f := upd (h 0) (12 + 6 * d) (nI v)) ?_ (r1 := h 0 (12 + 6 * d)) (r2 := h 0 (12 + 6 * d)) ?_ (fun M => ?_) rfl
          · refine Wf_upd G.1 (by omega) (by omega) (fun _ => ?_) (fun _ _ => by omega)
            have hb := hiB_it d hd8 1 (by omega)
            rw [show 11 + 6 * d + 1 = 12 + 6 * d by omega] at hb
            rw [hb, nI_toInt (by omega)]
            show 0 ≤ (v : Int) ∧ (v : Int) ≤ 15
            omega
          · unfold F_K_change F_K_change_0
            simp only [K_within, K_isHanger, K_isKind, K_isSpot, K_isSheet, R_hasDeposit R.2.2.1, R_hasGirl R.2.2.1, R.kg0, R.kg1, R.kob, R.2.2.1.ob_, Option.bind_some, bI_0, e0]
            rw [if_neg (fun z => z c1), if_neg (fun z => z c2), if_neg (fun z => z c3)]
            simp only [K_within, K_isHanger, K_isKind, K_isSpot, K_isSheet, R_hasDeposit R.2.2.1, R_hasGirl R.2.2.1, R.kg0, R.kg1, R.kob, R.2.2.1.ob_, Option.bind_some, bI_0, R_dRow1 R.2.2.1, R.2.2.1.a_rd_hanger hd8 rfl, R.2.2.1.a_wr_hanger hd8 rfl]
          · unfold F_M_change F_M_change_0 F_M_change_52
            simp only [M_in, M_isHanger, M_isPlace, M_isDeposit M, M_isGirl M, M.ob_, M.gr0, Option.bind_some, bI_0, M_mOf1]
            rw [if_neg (fun z => z c1), if_neg (fun z => z c2), if_neg (fun z => z c3)]
            have ex : (11 + (6 * nI d)) + nI 1 = nI (12 + 6 * d) := (n11 (d := d) (e := 1) rfl rfl).trans (by first | rfl | (congr 1; omega))
            rw [ex]
            simp only [M_in, M_isHanger, M_isPlace, M_isDeposit M, M_isGirl M, M.ob_, M.gr0, Option.bind_some, bI_0, M_becomes M (i := 12 + 6 * d) (by omega) rfl]
        · refine SP_fd R G (i := 0) (r1 := (-1000001) - 0) (r2 := (-1000001)) ?_ (fun M => ?_) (by decide)
          · unfold F_K_change F_K_change_0 F_K_change_33
            simp only [K_within, K_isHanger, K_isKind, K_isSpot, K_isSheet, R_hasDeposit R.2.2.1, R_hasGirl R.2.2.1, R.kg0, R.kg1, R.kob, R.2.2.1.ob_, Option.bind_some, bI_0, e0]
            rw [if_neg (fun z => z c1), if_neg (fun z => z c2), if_pos c3]
            simp only [K_within, K_isHanger, K_isKind, K_isSpot, K_isSheet, R_hasDeposit R.2.2.1, R_hasGirl R.2.2.1, R.kg0, R.kg1, R.kob, R.2.2.1.ob_, Option.bind_some, bI_0, e0, K_finding R (i := 0) (x := 0) (by omega) rfl]
          · unfold F_M_change F_M_change_0 F_M_change_46 F_M_change_52
            simp only [M_in, M_isHanger, M_isPlace, M_isDeposit M, M_isGirl M, M.ob_, M.gr0, Option.bind_some, bI_0, M_mOf1]
            rw [if_neg (fun z => z c1), if_neg (fun z => z c2), if_pos c3]
            simp only [M_in, M_isHanger, M_isPlace, M_isDeposit M, M_isGirl M, M.ob_, M.gr0, Option.bind_some, bI_0, M_mOf1, M_finds M (i := 0) (v := (-1000001)) (by omega) (by decide)]
      · have e0 : rs 0 (nI 2) = some 99 := by decide
        by_cases c3 : 0 ≤ a3 ∧ a3 ≤ 99
        · obtain ⟨v, -, hv, rfl⟩ := btw (m := 0) (n := 99) rfl rfl (by omega) (by omega) c3
          refine SP_row R G (f := upd (h 0) (13 + 6 * d) (nI v)) ?_ (r1 := h 0 (13 + 6 * d)) (r2 := h 0 (13 + 6 * d)) ?_ (fun M => ?_) rfl
          · refine Wf_upd G.1 (by omega) (by omega) (fun _ => ?_) (fun _ _ => by omega)
            have hb := hiB_it d hd8 2 (by omega)
            rw [show 11 + 6 * d + 2 = 13 + 6 * d by omega] at hb
            rw [hb, nI_toInt (by omega)]
            show 0 ≤ (v : Int) ∧ (v : Int) ≤ 99
            omega
          · unfold F_K_change F_K_change_0
            simp only [K_within, K_isHanger, K_isKind, K_isSpot, K_isSheet, R_hasDeposit R.2.2.1, R_hasGirl R.2.2.1, R.kg0, R.kg1, R.kob, R.2.2.1.ob_, Option.bind_some, bI_0, e0]
            rw [if_neg (fun z => z c1), if_neg (fun z => z c2), if_neg (fun z => z c3)]
            simp only [K_within, K_isHanger, K_isKind, K_isSpot, K_isSheet, R_hasDeposit R.2.2.1, R_hasGirl R.2.2.1, R.kg0, R.kg1, R.kob, R.2.2.1.ob_, Option.bind_some, bI_0, R_dRow2 R.2.2.1, R.2.2.1.a_rd_stub hd8 rfl, R.2.2.1.a_wr_stub hd8 rfl]
          · unfold F_M_change F_M_change_0 F_M_change_52
            simp only [M_in, M_isHanger, M_isPlace, M_isDeposit M, M_isGirl M, M.ob_, M.gr0, Option.bind_some, bI_0, M_mOf2]
            rw [if_neg (fun z => z c1), if_neg (fun z => z c2), if_neg (fun z => z c3)]
            have ex : (11 + (6 * nI d)) + nI 2 = nI (13 + 6 * d) := (n11 (d := d) (e := 2) rfl rfl).trans (by first | rfl | (congr 1; omega))
            rw [ex]
            simp only [M_in, M_isHanger, M_isPlace, M_isDeposit M, M_isGirl M, M.ob_, M.gr0, Option.bind_some, bI_0, M_becomes M (i := 13 + 6 * d) (by omega) rfl]
        · refine SP_fd R G (i := 0) (r1 := (-1000001) - 0) (r2 := (-1000001)) ?_ (fun M => ?_) (by decide)
          · unfold F_K_change F_K_change_0 F_K_change_33
            simp only [K_within, K_isHanger, K_isKind, K_isSpot, K_isSheet, R_hasDeposit R.2.2.1, R_hasGirl R.2.2.1, R.kg0, R.kg1, R.kob, R.2.2.1.ob_, Option.bind_some, bI_0, e0]
            rw [if_neg (fun z => z c1), if_neg (fun z => z c2), if_pos c3]
            simp only [K_within, K_isHanger, K_isKind, K_isSpot, K_isSheet, R_hasDeposit R.2.2.1, R_hasGirl R.2.2.1, R.kg0, R.kg1, R.kob, R.2.2.1.ob_, Option.bind_some, bI_0, e0, K_finding R (i := 0) (x := 0) (by omega) rfl]
          · unfold F_M_change F_M_change_0 F_M_change_46 F_M_change_52
            simp only [M_in, M_isHanger, M_isPlace, M_isDeposit M, M_isGirl M, M.ob_, M.gr0, Option.bind_some, bI_0, M_mOf2]
            rw [if_neg (fun z => z c1), if_neg (fun z => z c2), if_pos c3]
            simp only [M_in, M_isHanger, M_isPlace, M_isDeposit M, M_isGirl M, M.ob_, M.gr0, Option.bind_some, bI_0, M_mOf2, M_finds M (i := 0) (v := (-1000001)) (by omega) (by decide)]
      · have e0 : rs 0 (nI 3) = some 9999 := by decide
        by_cases c3 : 0 ≤ a3 ∧ a3 ≤ 9999
        · obtain ⟨v, -, hv, rfl⟩ := btw (m := 0) (n := 9999) rfl rfl (by omega) (by omega) c3
          refine SP_row R G (f := upd (h 0) (14 + 6 * d) (nI v)) ?_ (r1 := h 0 (14 + 6 * d)) (r2 := h 0 (14 + 6 * d)) ?_ (fun M => ?_) rfl
          · refine Wf_upd G.1 (by omega) (by omega) (fun _ => ?_) (fun _ _ => by omega)
            have hb := hiB_it d hd8 3 (by omega)
            rw [show 11 + 6 * d + 3 = 14 + 6 * d by omega] at hb
            rw [hb, nI_toInt (by omega)]
            show 0 ≤ (v : Int) ∧ (v : Int) ≤ 9999
            omega
          · unfold F_K_change F_K_change_0
            simp only [K_within, K_isHanger, K_isKind, K_isSpot, K_isSheet, R_hasDeposit R.2.2.1, R_hasGirl R.2.2.1, R.kg0, R.kg1, R.kob, R.2.2.1.ob_, Option.bind_some, bI_0, e0]
            rw [if_neg (fun z => z c1), if_neg (fun z => z c2), if_neg (fun z => z c3)]
            simp only [K_within, K_isHanger, K_isKind, K_isSpot, K_isSheet, R_hasDeposit R.2.2.1, R_hasGirl R.2.2.1, R.kg0, R.kg1, R.kob, R.2.2.1.ob_, Option.bind_some, bI_0, R_dRow3 R.2.2.1, R.2.2.1.a_rd_kept hd8 rfl, R.2.2.1.a_wr_kept hd8 rfl]
          · unfold F_M_change F_M_change_0 F_M_change_52
            simp only [M_in, M_isHanger, M_isPlace, M_isDeposit M, M_isGirl M, M.ob_, M.gr0, Option.bind_some, bI_0, M_mOf3]
            rw [if_neg (fun z => z c1), if_neg (fun z => z c2), if_neg (fun z => z c3)]
            have ex : (11 + (6 * nI d)) + nI 3 = nI (14 + 6 * d) := (n11 (d := d) (e := 3) rfl rfl).trans (by first | rfl | (congr 1; omega))
            rw [ex]
            simp only [M_in, M_isHanger, M_isPlace, M_isDeposit M, M_isGirl M, M.ob_, M.gr0, Option.bind_some, bI_0, M_becomes M (i := 14 + 6 * d) (by omega) rfl]
        · refine SP_fd R G (i := 0) (r1 := (-1000001) - 0) (r2 := (-1000001)) ?_ (fun M => ?_) (by decide)
          · unfold F_K_change F_K_change_0 F_K_change_33
            simp only [K_within, K_isHanger, K_isKind, K_isSpot, K_isSheet, R_hasDeposit R.2.2.1, R_hasGirl R.2.2.1, R.kg0, R.kg1, R.kob, R.2.2.1.ob_, Option.bind_some, bI_0, e0]
            rw [if_neg (fun z => z c1), if_neg (fun z => z c2), if_pos c3]
            simp only [K_within, K_isHanger, K_isKind, K_isSpot, K_isSheet, R_hasDeposit R.2.2.1, R_hasGirl R.2.2.1, R.kg0, R.kg1, R.kob, R.2.2.1.ob_, Option.bind_some, bI_0, e0, K_finding R (i := 0) (x := 0) (by omega) rfl]
          · unfold F_M_change F_M_change_0 F_M_change_46 F_M_change_52
            simp only [M_in, M_isHanger, M_isPlace, M_isDeposit M, M_isGirl M, M.ob_, M.gr0, Option.bind_some, bI_0, M_mOf3]
            rw [if_neg (fun z => z c1), if_neg (fun z => z c2), if_pos c3]
            simp only [M_in, M_isHanger, M_isPlace, M_isDeposit M, M_isGirl M, M.ob_, M.gr0, Option.bind_some, bI_0, M_mOf3, M_finds M (i := 0) (v := (-1000001)) (by omega) (by decide)]
      · have e0 : rs 0 (nI 4) = some 99 := by decide
        by_cases c3 : 0 ≤ a3 ∧ a3 ≤ 99
        · obtain ⟨v, -, hv, rfl⟩ := btw (m := 0) (n := 99) rfl rfl (by omega) (by omega) c3
          refine SP_row R G (f := upd (h 0) (15 + 6 * d) (nI v)) ?_ (r1 := h 0 (15 + 6 * d)) (r2 := h 0 (15 + 6 * d)) ?_ (fun M => ?_) rfl
          · refine Wf_upd G.1 (by omega) (by omega) (fun _ => ?_) (fun _ _ => by omega)
            have hb := hiB_it d hd8 4 (by omega)
            rw [show 11 + 6 * d + 4 = 15 + 6 * d by omega] at hb
            rw [hb, nI_toInt (by omega)]
            show 0 ≤ (v : Int) ∧ (v : Int) ≤ 99
            omega
          · unfold F_K_change F_K_change_0
            simp only [K_within, K_isHanger, K_isKind, K_isSpot, K_isSheet, R_hasDeposit R.2.2.1, R_hasGirl R.2.2.1, R.kg0, R.kg1, R.kob, R.2.2.1.ob_, Option.bind_some, bI_0, e0]
            rw [if_neg (fun z => z c1), if_neg (fun z => z c2), if_neg (fun z => z c3)]
            simp only [K_within, K_isHanger, K_isKind, K_isSpot, K_isSheet, R_hasDeposit R.2.2.1, R_hasGirl R.2.2.1, R.kg0, R.kg1, R.kob, R.2.2.1.ob_, Option.bind_some, bI_0, R_dRow4 R.2.2.1, R.2.2.1.a_rd_worn hd8 rfl, R.2.2.1.a_wr_worn hd8 rfl]
          · unfold F_M_change F_M_change_0 F_M_change_52
            simp only [M_in, M_isHanger, M_isPlace, M_isDeposit M, M_isGirl M, M.ob_, M.gr0, Option.bind_some, bI_0, M_mOf4]
            rw [if_neg (fun z => z c1), if_neg (fun z => z c2), if_neg (fun z => z c3)]
            have ex : (11 + (6 * nI d)) + nI 4 = nI (15 + 6 * d) := (n11 (d := d) (e := 4) rfl rfl).trans (by first | rfl | (congr 1; omega))
            rw [ex]
            simp only [M_in, M_isHanger, M_isPlace, M_isDeposit M, M_isGirl M, M.ob_, M.gr0, Option.bind_some, bI_0, M_becomes M (i := 15 + 6 * d) (by omega) rfl]
        · refine SP_fd R G (i := 0) (r1 := (-1000001) - 0) (r2 := (-1000001)) ?_ (fun M => ?_) (by decide)
          · unfold F_K_change F_K_change_0 F_K_change_33
            simp only [K_within, K_isHanger, K_isKind, K_isSpot, K_isSheet, R_hasDeposit R.2.2.1, R_hasGirl R.2.2.1, R.kg0, R.kg1, R.kob, R.2.2.1.ob_, Option.bind_some, bI_0, e0]
            rw [if_neg (fun z => z c1), if_neg (fun z => z c2), if_pos c3]
            simp only [K_within, K_isHanger, K_isKind, K_isSpot, K_isSheet, R_hasDeposit R.2.2.1, R_hasGirl R.2.2.1, R.kg0, R.kg1, R.kob, R.2.2.1.ob_, Option.bind_some, bI_0, e0, K_finding R (i := 0) (x := 0) (by omega) rfl]
          · unfold F_M_change F_M_change_0 F_M_change_46 F_M_change_52
            simp only [M_in, M_isHanger, M_isPlace, M_isDeposit M, M_isGirl M, M.ob_, M.gr0, Option.bind_some, bI_0, M_mOf4]
            rw [if_neg (fun z => z c1), if_neg (fun z => z c2), if_pos c3]
            simp only [M_in, M_isHanger, M_isPlace, M_isDeposit M, M_isGirl M, M.ob_, M.gr0, Option.bind_some, bI_0, M_mOf4, M_finds M (i := 0) (v := (-1000001)) (by omega) (by decide)]
      · have e0 : rs 0 (nI 5) = some 1 := by decide
        by_cases c3 : 0 ≤ a3 ∧ a3 ≤ 1
        · obtain ⟨v, -, hv, rfl⟩ := btw (m := 0) (n := 1) rfl rfl (by omega) (by omega) c3
          refine SP_row R G (f := upd (h 0) (16 + 6 * d) (nI v)) ?_ (r1 := h 0 (16 + 6 * d)) (r2 := h 0 (16 + 6 * d)) ?_ (fun M => ?_) rfl
          · refine Wf_upd G.1 (by omega) (by omega) (fun _ => ?_) (fun _ _ => by omega)
            have hb := hiB_it d hd8 5 (by omega)
            rw [show 11 + 6 * d + 5 = 16 + 6 * d by omega] at hb
            rw [hb, nI_toInt (by omega)]
            show 0 ≤ (v : Int) ∧ (v : Int) ≤ 1
            omega
          · unfold F_K_change F_K_change_0
            simp only [K_within, K_isHanger, K_isKind, K_isSpot, K_isSheet, R_hasDeposit R.2.2.1, R_hasGirl R.2.2.1, R.kg0, R.kg1, R.kob, R.2.2.1.ob_, Option.bind_some, bI_0, e0]
            rw [if_neg (fun z => z c1), if_neg (fun z => z c2), if_neg (fun z => z c3)]
            simp only [K_within, K_isHanger, K_isKind, K_isSpot, K_isSheet, R_hasDeposit R.2.2.1, R_hasGirl R.2.2.1, R.kg0, R.kg1, R.kob, R.2.2.1.ob_, Option.bind_some, bI_0, R_dRow5 R.2.2.1, R.2.2.1.a_rd_out hd8 rfl, R.2.2.1.a_wr_out hd8 rfl]
          · unfold F_M_change F_M_change_0 F_M_change_52
            simp only [M_in, M_isHanger, M_isPlace, M_isDeposit M, M_isGirl M, M.ob_, M.gr0, Option.bind_some, bI_0, M_mOf5]
            rw [if_neg (fun z => z c1), if_neg (fun z => z c2), if_neg (fun z => z c3)]
            have ex : (11 + (6 * nI d)) + nI 5 = nI (16 + 6 * d) := (n11 (d := d) (e := 5) rfl rfl).trans (by first | rfl | (congr 1; omega))
            rw [ex]
            simp only [M_in, M_isHanger, M_isPlace, M_isDeposit M, M_isGirl M, M.ob_, M.gr0, Option.bind_some, bI_0, M_becomes M (i := 16 + 6 * d) (by omega) rfl]
        · refine SP_fd R G (i := 0) (r1 := (-1000001) - 0) (r2 := (-1000001)) ?_ (fun M => ?_) (by decide)
          · unfold F_K_change F_K_change_0 F_K_change_33
            simp only [K_within, K_isHanger, K_isKind, K_isSpot, K_isSheet, R_hasDeposit R.2.2.1, R_hasGirl R.2.2.1, R.kg0, R.kg1, R.kob, R.2.2.1.ob_, Option.bind_some, bI_0, e0]
            rw [if_neg (fun z => z c1), if_neg (fun z => z c2), if_pos c3]
            simp only [K_within, K_isHanger, K_isKind, K_isSpot, K_isSheet, R_hasDeposit R.2.2.1, R_hasGirl R.2.2.1, R.kg0, R.kg1, R.kob, R.2.2.1.ob_, Option.bind_some, bI_0, e0, K_finding R (i := 0) (x := 0) (by omega) rfl]
          · unfold F_M_change F_M_change_0 F_M_change_46 F_M_change_52
            simp only [M_in, M_isHanger, M_isPlace, M_isDeposit M, M_isGirl M, M.ob_, M.gr0, Option.bind_some, bI_0, M_mOf5]
            rw [if_neg (fun z => z c1), if_neg (fun z => z c2), if_pos c3]
            simp only [M_in, M_isHanger, M_isPlace, M_isDeposit M, M_isGirl M, M.ob_, M.gr0, Option.bind_some, bI_0, M_mOf5, M_finds M (i := 0) (v := (-1000001)) (by omega) (by decide)]
    · refine SP_fd R G (i := 0) (r1 := (-1000001) - 0) (r2 := (-1000001)) ?_ (fun M => ?_) (by decide)
      · unfold F_K_change F_K_change_0 F_K_change_33
        simp only [K_within, K_isHanger, K_isKind, K_isSpot, K_isSheet, R_hasDeposit R.2.2.1, R_hasGirl R.2.2.1, R.kg0, R.kg1, R.kob, R.2.2.1.ob_, Option.bind_some, bI_0]
        rw [if_neg (fun z => z c1), if_pos c2]
        simp only [K_within, K_isHanger, K_isKind, K_isSpot, K_isSheet, R_hasDeposit R.2.2.1, R_hasGirl R.2.2.1, R.kg0, R.kg1, R.kob, R.2.2.1.ob_, Option.bind_some, bI_0, K_finding R (i := 0) (x := 0) (by omega) rfl]
      · unfold F_M_change F_M_change_0 F_M_change_46 F_M_change_52
        simp only [M_in, M_isHanger, M_isPlace, M_isDeposit M, M_isGirl M, M.ob_, M.gr0, Option.bind_some, bI_0]
        rw [if_neg (fun z => z c1), if_pos c2]
        simp only [M_in, M_isHanger, M_isPlace, M_isDeposit M, M_isGirl M, M.ob_, M.gr0, Option.bind_some, bI_0, M_finds M (i := 0) (v := (-1000001)) (by omega) (by decide)]
  · refine SP_fd R G (i := 0) (r1 := (-1000001) - 0) (r2 := (-1000001)) ?_ (fun M => ?_) (by decide)
    · unfold F_K_change F_K_change_0 F_K_change_33
      simp only [K_within, K_isHanger, K_isKind, K_isSpot, K_isSheet, R_hasDeposit R.2.2.1, R_hasGirl R.2.2.1, R.kg0, R.kg1, R.kob, R.2.2.1.ob_, Option.bind_some, bI_0]
      rw [if_pos c1]
      simp only [K_within, K_isHanger, K_isKind, K_isSpot, K_isSheet, R_hasDeposit R.2.2.1, R_hasGirl R.2.2.1, R.kg0, R.kg1, R.kob, R.2.2.1.ob_, Option.bind_some, bI_0, K_finding R (i := 0) (x := 0) (by omega) rfl]
    · unfold F_M_change F_M_change_0 F_M_change_46 F_M_change_52
      simp only [M_in, M_isHanger, M_isPlace, M_isDeposit M, M_isGirl M, M.ob_, M.gr0, Option.bind_some, bI_0]
      rw [if_pos c1]
      simp only [M_in, M_isHanger, M_isPlace, M_isDeposit M, M_isGirl M, M.ob_, M.gr0, Option.bind_some, bI_0, M_finds M (i := 0) (v := (-1000001)) (by omega) (by decide)]
theorem st7 : St7 Rel := by
  intro a1 a2 a3 w ⟨h, s, g2, g3, q, R, G⟩
  by_cases c1 : 0 ≤ a1 ∧ a1 ≤ h 0 4 - 1
  · by_cases c2 : 0 ≤ a2 ∧ a2 ≤ 2
    · have hc := c1
      rw [(Wf_grl G.1).2] at hc
      obtain ⟨d, hd, rfl⟩ := (in_iff (by have := Wf_grl G.1; omega)).mp hc
      have hd6 : d < 6 := by have := Wf_grl G.1; omega
      obtain ⟨k, -, hk, rfl⟩ := btw (m := 0) (n := 2) rfl rfl (by omega) (by omega) c2
      rcases (show k = 0 ∨ k = 1 ∨ k = 2 by omega) with rfl | rfl | rfl
      · have e1 : rs 1 (nI 0) = some 0 := by decide
        have e2 : rs 2 (nI 0) = some 99 := by decide
        by_cases c3 : 0 ≤ a3 ∧ a3 ≤ 99
        · obtain ⟨v, hv0, hv, rfl⟩ := btw (m := 0) (n := 99) rfl rfl (by omega) (by omega) c3
          refine SP_row R G (f := upd (h 0) (59 + 3 * d) (nI v)) ?_ (r1 := h 0 (59 + 3 * d)) (r2 := h 0 (59 + 3 * d)) ?_ (fun M => ?_) rfl
          · refine Wf_upd G.1 (by omega) (by omega) (fun _ => ?_) (fun _ _ => by omega)
            have hb := hiB_gr d hd6 0 (by omega)
            rw [Nat.add_zero] at hb
            rw [hb, nI_toInt (by omega)]
            show 0 ≤ (v : Int) ∧ (v : Int) ≤ 99
            omega
          · unfold F_K_wake F_K_wake_0
            simp only [K_within, K_isHanger, K_isKind, K_isSpot, K_isSheet, R_hasDeposit R.2.2.1, R_hasGirl R.2.2.1, R.kg0, R.kg1, R.kob, R.2.2.1.ob_, Option.bind_some, bI_0, e1, e2]
            rw [if_neg (fun z => z c1), if_neg (fun z => z c2), if_neg (fun z => z c3)]
            simp only [K_within, K_isHanger, K_isKind, K_isSpot, K_isSheet, R_hasDeposit R.2.2.1, R_hasGirl R.2.2.1, R.kg0, R.kg1, R.kob, R.2.2.1.ob_, Option.bind_some, bI_0, R_gRow0 R.2.2.1, R.2.2.1.a_rd_dream hd6 rfl, R.2.2.1.a_wr_dream hd6 rfl]
          · unfold F_M_wake F_M_wake_0 F_M_wake_28 F_M_wake_41 F_M_wake_51 F_M_wake_52 F_M_wake_81
            simp only [M_in, M_isHanger, M_isPlace, M_isDeposit M, M_isGirl M, M.ob_, M.gr0, Option.bind_some, bI_0]
            rw [if_neg (fun z => z c1), if_neg (fun z => z c2), if_neg (by decide), if_neg (by decide), if_neg (fun z => z c3), if_neg (by decide)]
            have ex : (59 + (3 * nI d)) + nI 0 = nI (59 + 3 * d) := (n59 (d := d) (e := 0) rfl rfl).trans (by first | rfl | (congr 1; omega))
            rw [ex]
            simp only [M_in, M_isHanger, M_isPlace, M_isDeposit M, M_isGirl M, M.ob_, M.gr0, Option.bind_some, bI_0, M_becomes M (i := 59 + 3 * d) (by omega) rfl]
        · refine SP_fd R G (i := 0) (r1 := (-1000001) - 0) (r2 := (-1000001)) ?_ (fun M => ?_) (by decide)
          · unfold F_K_wake F_K_wake_0 F_K_wake_37
            simp only [K_within, K_isHanger, K_isKind, K_isSpot, K_isSheet, R_hasDeposit R.2.2.1, R_hasGirl R.2.2.1, R.kg0, R.kg1, R.kob, R.2.2.1.ob_, Option.bind_some, bI_0, e1, e2]
            rw [if_neg (fun z => z c1), if_neg (fun z => z c2), if_pos c3]
            simp only [K_within, K_isHanger, K_isKind, K_isSpot, K_isSheet, R_hasDeposit R.2.2.1, R_hasGirl R.2.2.1, R.kg0, R.kg1, R.kob, R.2.2.1.ob_, Option.bind_some, bI_0, e1, e2, K_finding R (i := 0) (x := 0) (by omega) rfl]
          · unfold F_M_wake F_M_wake_0 F_M_wake_28 F_M_wake_41 F_M_wake_51 F_M_wake_52 F_M_wake_81
            simp only [M_in, M_isHanger, M_isPlace, M_isDeposit M, M_isGirl M, M.ob_, M.gr0, Option.bind_some, bI_0]
            rw [if_neg (fun z => z c1), if_neg (fun z => z c2), if_neg (by decide), if_neg (by decide), if_pos c3, if_pos (by decide)]
            simp only [M_in, M_isHanger, M_isPlace, M_isDeposit M, M_isGirl M, M.ob_, M.gr0, Option.bind_some, bI_0, M_finds M (i := 0) (v := (-1000001)) (by omega) (by decide)]
      · have e1 : rs 1 (nI 1) = some 1 := by decide
        have e2 : rs 2 (nI 1) = some 99 := by decide
        by_cases c3 : 1 ≤ a3 ∧ a3 ≤ 99
        · obtain ⟨v, hv0, hv, rfl⟩ := btw (m := 1) (n := 99) rfl rfl (by omega) (by omega) c3
          refine SP_row R G (f := upd (h 0) (60 + 3 * d) (nI v)) ?_ (r1 := h 0 (60 + 3 * d)) (r2 := h 0 (60 + 3 * d)) ?_ (fun M => ?_) rfl
          · refine Wf_upd G.1 (by omega) (by omega) (fun _ => ?_) (fun _ _ => by omega)
            have hb := hiB_gr d hd6 1 (by omega)
            rw [show 59 + 3 * d + 1 = 60 + 3 * d by omega] at hb
            rw [hb, nI_toInt (by omega)]
            show 0 ≤ (v : Int) ∧ (v : Int) ≤ 100
            omega
          · unfold F_K_wake F_K_wake_0
            simp only [K_within, K_isHanger, K_isKind, K_isSpot, K_isSheet, R_hasDeposit R.2.2.1, R_hasGirl R.2.2.1, R.kg0, R.kg1, R.kob, R.2.2.1.ob_, Option.bind_some, bI_0, e1, e2]
            rw [if_neg (fun z => z c1), if_neg (fun z => z c2), if_neg (fun z => z c3)]
            simp only [K_within, K_isHanger, K_isKind, K_isSpot, K_isSheet, R_hasDeposit R.2.2.1, R_hasGirl R.2.2.1, R.kg0, R.kg1, R.kob, R.2.2.1.ob_, Option.bind_some, bI_0, R_gRow1 R.2.2.1, R.2.2.1.a_rd_hope hd6 rfl, R.2.2.1.a_wr_hope hd6 rfl]
          · unfold F_M_wake F_M_wake_0 F_M_wake_28 F_M_wake_41 F_M_wake_51 F_M_wake_52 F_M_wake_81
            simp only [M_in, M_isHanger, M_isPlace, M_isDeposit M, M_isGirl M, M.ob_, M.gr0, Option.bind_some, bI_0]
            rw [if_neg (fun z => z c1), if_neg (fun z => z c2), if_pos (by decide), if_neg (by decide), if_neg (fun z => z c3), if_neg (by decide)]
            have ex : (59 + (3 * nI d)) + nI 1 = nI (60 + 3 * d) := (n59 (d := d) (e := 1) rfl rfl).trans (by first | rfl | (congr 1; omega))
            rw [ex]
            simp only [M_in, M_isHanger, M_isPlace, M_isDeposit M, M_isGirl M, M.ob_, M.gr0, Option.bind_some, bI_0, M_becomes M (i := 60 + 3 * d) (by omega) rfl]
        · refine SP_fd R G (i := 0) (r1 := (-1000001) - 0) (r2 := (-1000001)) ?_ (fun M => ?_) (by decide)
          · unfold F_K_wake F_K_wake_0 F_K_wake_37
            simp only [K_within, K_isHanger, K_isKind, K_isSpot, K_isSheet, R_hasDeposit R.2.2.1, R_hasGirl R.2.2.1, R.kg0, R.kg1, R.kob, R.2.2.1.ob_, Option.bind_some, bI_0, e1, e2]
            rw [if_neg (fun z => z c1), if_neg (fun z => z c2), if_pos c3]
            simp only [K_within, K_isHanger, K_isKind, K_isSpot, K_isSheet, R_hasDeposit R.2.2.1, R_hasGirl R.2.2.1, R.kg0, R.kg1, R.kob, R.2.2.1.ob_, Option.bind_some, bI_0, e1, e2, K_finding R (i := 0) (x := 0) (by omega) rfl]
          · unfold F_M_wake F_M_wake_0 F_M_wake_28 F_M_wake_41 F_M_wake_51 F_M_wake_52 F_M_wake_81
            simp only [M_in, M_isHanger, M_isPlace, M_isDeposit M, M_isGirl M, M.ob_, M.gr0, Option.bind_some, bI_0]
            rw [if_neg (fun z => z c1), if_neg (fun z => z c2), if_pos (by decide), if_neg (by decide), if_pos c3, if_pos (by decide)]
            simp only [M_in, M_isHanger, M_isPlace, M_isDeposit M, M_isGirl M, M.ob_, M.gr0, Option.bind_some, bI_0, M_finds M (i := 0) (v := (-1000001)) (by omega) (by decide)]
      · have e1 : rs 1 (nI 2) = some 0 := by decide
        have e2 : rs 2 (nI 2) = some 9999 := by decide
        by_cases c3 : 0 ≤ a3 ∧ a3 ≤ 9999
        · obtain ⟨v, hv0, hv, rfl⟩ := btw (m := 0) (n := 9999) rfl rfl (by omega) (by omega) c3
          refine SP_row R G (f := upd (h 0) (61 + 3 * d) (nI v)) ?_ (r1 := h 0 (61 + 3 * d)) (r2 := h 0 (61 + 3 * d)) ?_ (fun M => ?_) rfl
          · refine Wf_upd G.1 (by omega) (by omega) (fun _ => ?_) (fun _ _ => by omega)
            have hb := hiB_gr d hd6 2 (by omega)
            rw [show 59 + 3 * d + 2 = 61 + 3 * d by omega] at hb
            rw [hb, nI_toInt (by omega)]
            show 0 ≤ (v : Int) ∧ (v : Int) ≤ 9999
            omega
          · unfold F_K_wake F_K_wake_0
            simp only [K_within, K_isHanger, K_isKind, K_isSpot, K_isSheet, R_hasDeposit R.2.2.1, R_hasGirl R.2.2.1, R.kg0, R.kg1, R.kob, R.2.2.1.ob_, Option.bind_some, bI_0, e1, e2]
            rw [if_neg (fun z => z c1), if_neg (fun z => z c2), if_neg (fun z => z c3)]
            simp only [K_within, K_isHanger, K_isKind, K_isSpot, K_isSheet, R_hasDeposit R.2.2.1, R_hasGirl R.2.2.1, R.kg0, R.kg1, R.kob, R.2.2.1.ob_, Option.bind_some, bI_0, R_gRow2 R.2.2.1, R.2.2.1.a_rd_met hd6 rfl, R.2.2.1.a_wr_met hd6 rfl]
          · unfold F_M_wake F_M_wake_0 F_M_wake_28 F_M_wake_41 F_M_wake_51 F_M_wake_52 F_M_wake_81
            simp only [M_in, M_isHanger, M_isPlace, M_isDeposit M, M_isGirl M, M.ob_, M.gr0, Option.bind_some, bI_0]
            rw [if_neg (fun z => z c1), if_neg (fun z => z c2), if_neg (by decide), if_pos (by decide), if_neg (fun z => z c3), if_neg (by decide)]
            have ex : (59 + (3 * nI d)) + nI 2 = nI (61 + 3 * d) := (n59 (d := d) (e := 2) rfl rfl).trans (by first | rfl | (congr 1; omega))
            rw [ex]
            simp only [M_in, M_isHanger, M_isPlace, M_isDeposit M, M_isGirl M, M.ob_, M.gr0, Option.bind_some, bI_0, M_becomes M (i := 61 + 3 * d) (by omega) rfl]
        · refine SP_fd R G (i := 0) (r1 := (-1000001) - 0) (r2 := (-1000001)) ?_ (fun M => ?_) (by decide)
          · unfold F_K_wake F_K_wake_0 F_K_wake_37
            simp only [K_within, K_isHanger, K_isKind, K_isSpot, K_isSheet, R_hasDeposit R.2.2.1, R_hasGirl R.2.2.1, R.kg0, R.kg1, R.kob, R.2.2.1.ob_, Option.bind_some, bI_0, e1, e2]
            rw [if_neg (fun z => z c1), if_neg (fun z => z c2), if_pos c3]
            simp only [K_within, K_isHanger, K_isKind, K_isSpot, K_isSheet, R_hasDeposit R.2.2.1, R_hasGirl R.2.2.1, R.kg0, R.kg1, R.kob, R.2.2.1.ob_, Option.bind_some, bI_0, e1, e2, K_finding R (i := 0) (x := 0) (by omega) rfl]
          · unfold F_M_wake F_M_wake_0 F_M_wake_28 F_M_wake_41 F_M_wake_51 F_M_wake_52 F_M_wake_81
            simp only [M_in, M_isHanger, M_isPlace, M_isDeposit M, M_isGirl M, M.ob_, M.gr0, Option.bind_some, bI_0]
            rw [if_neg (fun z => z c1), if_neg (fun z => z c2), if_neg (by decide), if_pos (by decide), if_pos c3, if_pos (by decide)]
            simp only [M_in, M_isHanger, M_isPlace, M_isDeposit M, M_isGirl M, M.ob_, M.gr0, Option.bind_some, bI_0, M_finds M (i := 0) (v := (-1000001)) (by omega) (by decide)]
    · refine SP_fd R G (i := 0) (r1 := (-1000001) - 0) (r2 := (-1000001)) ?_ (fun M => ?_) (by decide)
      · unfold F_K_wake F_K_wake_0 F_K_wake_37
        simp only [K_within, K_isHanger, K_isKind, K_isSpot, K_isSheet, R_hasDeposit R.2.2.1, R_hasGirl R.2.2.1, R.kg0, R.kg1, R.kob, R.2.2.1.ob_, Option.bind_some, bI_0]
        rw [if_neg (fun z => z c1), if_pos c2]
        simp only [K_within, K_isHanger, K_isKind, K_isSpot, K_isSheet, R_hasDeposit R.2.2.1, R_hasGirl R.2.2.1, R.kg0, R.kg1, R.kob, R.2.2.1.ob_, Option.bind_some, bI_0, K_finding R (i := 0) (x := 0) (by omega) rfl]
      · unfold F_M_wake F_M_wake_0 F_M_wake_28 F_M_wake_41 F_M_wake_51 F_M_wake_52 F_M_wake_81
        simp only [M_in, M_isHanger, M_isPlace, M_isDeposit M, M_isGirl M, M.ob_, M.gr0, Option.bind_some, bI_0]
        rw [if_neg (fun z => z c1), if_pos c2, if_pos (by decide)]
        simp only [M_in, M_isHanger, M_isPlace, M_isDeposit M, M_isGirl M, M.ob_, M.gr0, Option.bind_some, bI_0, M_finds M (i := 0) (v := (-1000001)) (by omega) (by decide)]
  · refine SP_fd R G (i := 0) (r1 := (-1000001) - 0) (r2 := (-1000001)) ?_ (fun M => ?_) (by decide)
    · unfold F_K_wake F_K_wake_0 F_K_wake_37
      simp only [K_within, K_isHanger, K_isKind, K_isSpot, K_isSheet, R_hasDeposit R.2.2.1, R_hasGirl R.2.2.1, R.kg0, R.kg1, R.kob, R.2.2.1.ob_, Option.bind_some, bI_0]
      rw [if_pos c1]
      simp only [K_within, K_isHanger, K_isKind, K_isSpot, K_isSheet, R_hasDeposit R.2.2.1, R_hasGirl R.2.2.1, R.kg0, R.kg1, R.kob, R.2.2.1.ob_, Option.bind_some, bI_0, K_finding R (i := 0) (x := 0) (by omega) rfl]
    · unfold F_M_wake F_M_wake_0 F_M_wake_28 F_M_wake_41 F_M_wake_51 F_M_wake_52 F_M_wake_81
      simp only [M_in, M_isHanger, M_isPlace, M_isDeposit M, M_isGirl M, M.ob_, M.gr0, Option.bind_some, bI_0]
      rw [if_pos c1, if_pos (by decide)]
      simp only [M_in, M_isHanger, M_isPlace, M_isDeposit M, M_isGirl M, M.ob_, M.gr0, Option.bind_some, bI_0, M_finds M (i := 0) (v := (-1000001)) (by omega) (by decide)]
