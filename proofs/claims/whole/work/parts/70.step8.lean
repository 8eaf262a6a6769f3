theorem bt_y {α : Type} {x : Int32} (c : x = 0 ∨ x = 8 ∨ x = 16 ∨ x = 32) (A B : α) : (if x = 0 then A else if x = 8 then A else if x = 16 then A else if x = 32 then A else B) = A := by rcases c with rfl | rfl | rfl | rfl <;> rfl
theorem bt_n {α : Type} {x : Int32} (c : ¬ (x = 0 ∨ x = 8 ∨ x = 16 ∨ x = 32)) (A B : α) : (if x = 0 then A else if x = 8 then A else if x = 16 then A else if x = 32 then A else B) = B := by
  rw [if_neg (fun z => c (Or.inl z)), if_neg (fun z => c (Or.inr (Or.inl z))), if_neg (fun z => c (Or.inr (Or.inr (Or.inl z)))), if_neg (fun z => c (Or.inr (Or.inr (Or.inr z))))]
section NTH
variable {w : A_W} {h : Nat → Nat → Int32} {s : Nat → Int32}
theorem M_nt_no (hM : MM w h s) {x : Int32} (c : ¬ (0 ≤ x ∧ x ≤ 3)) : F_M_notThere 49 x w = some (-1000001, w) := by rw [M_notThere hM, if_neg c]
theorem sh_in {i : Nat} (hi : i < 4) : 0 ≤ nI i ∧ nI i ≤ 3 := ⟨nI_pos' (by omega), nI_le (b := 3) (by omega) (by omega)⟩
theorem M_nt_ms (hM : MM w h s) {i : Nat} (hi : i < 4) (c : h 4 i = 0) : F_M_notThere 49 (nI i) w = some (-1000006, w) := by rw [M_notThere hM, if_pos (sh_in hi), nI_clamp (by omega), if_pos c]
theorem M_nt_ok (hM : MM w h s) {i : Nat} (hi : i < 4) (c : ¬ h 4 i = 0) : F_M_notThere 49 (nI i) w = some (0, w) := by rw [M_notThere hM, if_pos (sh_in hi), nI_clamp (by omega), if_neg c]
end NTH
theorem st33 : St33 Rel := by
  intro a1 a2 a3 w ⟨h, s, g2, g3, q, R, G⟩
  by_cases c1 : 0 ≤ a1 ∧ a1 ≤ 3
  · by_cases c2 : a2 = 0 ∨ a2 = 8 ∨ a2 = 16 ∨ a2 = 32
    · by_cases c3 : 0 ≤ a3
      · by_cases c4 : a3 ≤ 40
        · have c1' := c1
          obtain ⟨i, -, hi3, rfl⟩ := btw (m := 0) (n := 3) rfl rfl (by omega) (by omega) c1'
          have hi : i < 4 := by omega
          obtain ⟨n, -, hn, en⟩ := btw (m := 0) (n := 40) rfl rfl (by omega) (by omega) ⟨c3, c4⟩
          let z' : Int32 := if a2 = 0 then 0 else a3
          have hz : z' = if a2 = 0 then 0 else a3 := rfl
          have K1 := KX_cW (KX_oW R.2.1 hi a2 z') hi (c' := clr (h 6) i) (fun j _ hj => nf_clo _ hj)
          have M1 : MM (cW (oW w i a2 z') i (clr (h 6) i)) h s := R.1.fr (fun k hk => by rw [cW_at (by omega), oW_at (by omega)])
          have M2 := M1.set (a := 4) (by omega) (upd (h 4) i a2)
          refine ⟨(z', cW (oW w i a2 z') i (clr (h 6) i)), (z', mW (mW (mW (cW (oW w i a2 z') i (clr (h 6) i)) 4 (upd (h 4) i a2)) 5 (upd (h 5) i z')) 6 (clr (h 6) i)), ?_, ?_, rfl, ⟨_, _, _, _, _, R.sheet hi a2 z', ?_⟩, _, M1.ob_⟩
          · unfold F_K_sheet F_K_sheet_0
            simp only [K_within, K_isHanger, K_isKind, K_isSpot, K_isSheet, R_hasDeposit R.2.2.1, R_hasGirl R.2.2.1, R.kg0, R.kg1, R.kob, R.2.2.1.ob_, Option.bind_some, bI_0]
            rw [if_neg (fun z => z c1), bt_y c2]
            unfold F_K_sheet_35
            rw [if_pos c3, if_pos c4]
            simp only [K_within, K_isHanger, K_isKind, K_isSpot, K_isSheet, R_hasDeposit R.2.2.1, R_hasGirl R.2.2.1, R.kg0, R.kg1, R.kob, R.2.2.1.ob_, Option.bind_some, bI_0, R.2.1.g5, R.2.1.ra_ hi rfl]
            have e : ∀ v, v = z' → F_K_sheet_74 0 (nI i) (41 + 2 * i) a2 v w = some (z', cW (oW w i a2 z') i (clr (h 6) i)) := by
              intro v hv
              subst hv
              unfold F_K_sheet_74
              simp only [R.2.1.sob hi, Option.bind_some, S_begin R.2.1 hi, K1.g5, K1.ra_ hi rfl, K1.s1 hi, upd_s]
            split
            · rename_i c; exact e _ (by rw [hz, if_pos c])
            · rename_i c; exact e _ (by rw [hz, if_neg c])
          · unfold F_M_sheet F_M_sheet_0
            simp only [M_isSheet, Option.bind_some, bI_0]
            rw [if_neg (fun z => z c1), bt_y c2]
            unfold F_M_sheet_36
            rw [if_pos c3, if_pos c4]
            simp only [M1.gr5, Option.bind_some, M1.wr4 hi rfl, M2.gr6]
            have e : ∀ v, v = z' → F_M_sheet_81 49 (nI i) 55 (nI i) v (mW (cW (oW w i a2 z') i (clr (h 6) i)) 4 (upd (h 4) i a2)) = some (z', mW (mW (mW (cW (oW w i a2 z') i (clr (h 6) i)) 4 (upd (h 4) i a2)) 5 (upd (h 5) i z')) 6 (clr (h 6) i)) := by
              intro v hv
              subst hv
              have h1 := M_sheet_81 M2 hi z'
              rw [hset_ne _ _ (by omega), hset_ne _ _ (by omega)] at h1
              exact h1
            split
            · rename_i c; exact e _ (by rw [hz, if_pos c])
            · rename_i c; exact e _ (by rw [hz, if_neg c])
          · obtain ⟨G1, G2, G3, G4, G5, G6, G7⟩ := G
            have e0 : (hset (hset (hset h 4 (upd (h 4) i a2)) 5 (upd (h 5) i z')) 6 (clr (h 6) i)) 0 = h 0 := by rw [hset_ne _ _ (by omega), hset_ne _ _ (by omega), hset_ne _ _ (by omega)]
            have e1 : (hset (hset (hset h 4 (upd (h 4) i a2)) 5 (upd (h 5) i z')) 6 (clr (h 6) i)) 1 = h 1 := by rw [hset_ne _ _ (by omega), hset_ne _ _ (by omega), hset_ne _ _ (by omega)]
            have e4 : (hset (hset (hset h 4 (upd (h 4) i a2)) 5 (upd (h 5) i z')) 6 (clr (h 6) i)) 4 = upd (h 4) i a2 := by rw [hset_ne _ _ (by omega), hset_ne _ _ (by omega), hset_self]
            have e5 : (hset (hset (hset h 4 (upd (h 4) i a2)) 5 (upd (h 5) i z')) 6 (clr (h 6) i)) 5 = upd (h 5) i z' := by rw [hset_ne _ _ (by omega), hset_self]
            have e7 : (hset (hset (hset h 4 (upd (h 4) i a2)) 5 (upd (h 5) i z')) 6 (clr (h 6) i)) 7 = h 7 := by rw [hset_ne _ _ (by omega), hset_ne _ _ (by omega), hset_ne _ _ (by omega)]
            refine ⟨by rw [e0]; exact G1, G2, by rw [e1]; exact G3, fun j hj => ?_, G5, G6, by rw [e7]; exact G7⟩
            rw [e4, e5]
            by_cases e : j = i
            · subst e
              rw [upd_s, upd_s]
              refine ⟨c2, ?_, fun c => by rw [hz, if_pos c]⟩
              rw [hz]
              split
              · exact ⟨0, by omega, rfl⟩
              · exact ⟨n, hn, en⟩
            · rw [upd_n e, upd_n e]; exact G4 j hj
        · refine SP_fd R G (i := 0) (r1 := (-1000001) - 0) (r2 := (-1000001)) ?_ (fun M => ?_) (by decide)
          · unfold F_K_sheet F_K_sheet_0 F_K_sheet_35
            simp only [K_within, K_isHanger, K_isKind, K_isSpot, K_isSheet, R_hasDeposit R.2.2.1, R_hasGirl R.2.2.1, R.kg0, R.kg1, R.kob, R.2.2.1.ob_, Option.bind_some, bI_0]
            rw [if_neg (fun z => z c1), bt_y c2, if_pos c3, if_neg c4]
            simp only [K_within, K_isHanger, K_isKind, K_isSpot, K_isSheet, R_hasDeposit R.2.2.1, R_hasGirl R.2.2.1, R.kg0, R.kg1, R.kob, R.2.2.1.ob_, Option.bind_some, bI_0, K_finding R (i := 0) (x := 0) (by omega) rfl]
          · unfold F_M_sheet F_M_sheet_0 F_M_sheet_36
            simp only [M_in, M_isHanger, M_isPlace, M_isDeposit M, M_isGirl M, M.ob_, M.gr0, Option.bind_some, bI_0, M_isSheet, M.gr5, M.gr6, M.gr7]
            rw [if_neg (fun z => z c1), bt_y c2, if_pos c3, if_neg c4]
            simp only [M_in, M_isHanger, M_isPlace, M_isDeposit M, M_isGirl M, M.ob_, M.gr0, Option.bind_some, bI_0, M_isSheet, M.gr5, M.gr6, M.gr7, M_finds M (i := 0) (v := (-1000001)) (by omega) (by decide)]
      · refine SP_fd R G (i := 6) (r1 := (-1000001) - 6) (r2 := (-1000007)) ?_ (fun M => ?_) (by decide)
        · unfold F_K_sheet F_K_sheet_0 F_K_sheet_35
          simp only [K_within, K_isHanger, K_isKind, K_isSpot, K_isSheet, R_hasDeposit R.2.2.1, R_hasGirl R.2.2.1, R.kg0, R.kg1, R.kob, R.2.2.1.ob_, Option.bind_some, bI_0]
          rw [if_neg (fun z => z c1), bt_y c2, if_neg c3]
          simp only [K_within, K_isHanger, K_isKind, K_isSpot, K_isSheet, R_hasDeposit R.2.2.1, R_hasGirl R.2.2.1, R.kg0, R.kg1, R.kob, R.2.2.1.ob_, Option.bind_some, bI_0, K_finding R (i := 6) (x := 6) (by omega) rfl]
        · unfold F_M_sheet F_M_sheet_0 F_M_sheet_36
          simp only [M_in, M_isHanger, M_isPlace, M_isDeposit M, M_isGirl M, M.ob_, M.gr0, Option.bind_some, bI_0, M_isSheet, M.gr5, M.gr6, M.gr7]
          rw [if_neg (fun z => z c1), bt_y c2, if_neg c3]
          simp only [M_in, M_isHanger, M_isPlace, M_isDeposit M, M_isGirl M, M.ob_, M.gr0, Option.bind_some, bI_0, M_isSheet, M.gr5, M.gr6, M.gr7, M_finds M (i := 6) (v := (-1000007)) (by omega) (by decide)]
    · refine SP_fd R G (i := 0) (r1 := (-1000001) - 0) (r2 := (-1000001)) ?_ (fun M => ?_) (by decide)
      · unfold F_K_sheet F_K_sheet_0 F_K_sheet_29
        simp only [K_within, K_isHanger, K_isKind, K_isSpot, K_isSheet, R_hasDeposit R.2.2.1, R_hasGirl R.2.2.1, R.kg0, R.kg1, R.kob, R.2.2.1.ob_, Option.bind_some, bI_0]
        rw [if_neg (fun z => z c1), bt_n c2]
        simp only [K_within, K_isHanger, K_isKind, K_isSpot, K_isSheet, R_hasDeposit R.2.2.1, R_hasGirl R.2.2.1, R.kg0, R.kg1, R.kob, R.2.2.1.ob_, Option.bind_some, bI_0, K_finding R (i := 0) (x := 0) (by omega) rfl]
      · unfold F_M_sheet F_M_sheet_0 F_M_sheet_29
        simp only [M_in, M_isHanger, M_isPlace, M_isDeposit M, M_isGirl M, M.ob_, M.gr0, Option.bind_some, bI_0, M_isSheet, M.gr5, M.gr6, M.gr7]
        rw [if_neg (fun z => z c1), bt_n c2]
        simp only [M_in, M_isHanger, M_isPlace, M_isDeposit M, M_isGirl M, M.ob_, M.gr0, Option.bind_some, bI_0, M_isSheet, M.gr5, M.gr6, M.gr7, M_finds M (i := 0) (v := (-1000001)) (by omega) (by decide)]
  · refine SP_fd R G (i := 0) (r1 := (-1000001) - 0) (r2 := (-1000001)) ?_ (fun M => ?_) (by decide)
    · unfold F_K_sheet F_K_sheet_0 F_K_sheet_29
      simp only [K_within, K_isHanger, K_isKind, K_isSpot, K_isSheet, R_hasDeposit R.2.2.1, R_hasGirl R.2.2.1, R.kg0, R.kg1, R.kob, R.2.2.1.ob_, Option.bind_some, bI_0]
      rw [if_pos c1]
      simp only [K_within, K_isHanger, K_isKind, K_isSpot, K_isSheet, R_hasDeposit R.2.2.1, R_hasGirl R.2.2.1, R.kg0, R.kg1, R.kob, R.2.2.1.ob_, Option.bind_some, bI_0, K_finding R (i := 0) (x := 0) (by omega) rfl]
    · unfold F_M_sheet F_M_sheet_0 F_M_sheet_29
      simp only [M_in, M_isHanger, M_isPlace, M_isDeposit M, M_isGirl M, M.ob_, M.gr0, Option.bind_some, bI_0, M_isSheet, M.gr5, M.gr6, M.gr7]
      rw [if_pos c1]
      simp only [M_in, M_isHanger, M_isPlace, M_isDeposit M, M_isGirl M, M.ob_, M.gr0, Option.bind_some, bI_0, M_isSheet, M.gr5, M.gr6, M.gr7, M_finds M (i := 0) (v := (-1000001)) (by omega) (by decide)]
theorem st34 : St34 Rel := by
  intro a1 a2 a3 w ⟨h, s, g2, g3, q, R, G⟩
  by_cases c1 : 0 ≤ a1 ∧ a1 ≤ 3
  · have c1' := c1
    obtain ⟨i, -, hi3, rfl⟩ := btw (m := 0) (n := 3) rfl rfl (by omega) (by omega) c1'
    have hi : i < 4 := by omega
    by_cases c2 : h 4 i = 0
    · refine SP_fd R G (i := 5) (r1 := (-1000001) - 5) (r2 := (-1000006)) ?_ (fun M => ?_) (by decide)
      · unfold F_K_write F_K_write_0
        simp only [K_within, K_isHanger, K_isKind, K_isSpot, K_isSheet, R_hasDeposit R.2.2.1, R_hasGirl R.2.2.1, R.kg0, R.kg1, R.kob, R.2.2.1.ob_, Option.bind_some, bI_0]
        rw [if_neg (fun z => z c1)]
        simp only [K_within, K_isHanger, K_isKind, K_isSpot, K_isSheet, R_hasDeposit R.2.2.1, R_hasGirl R.2.2.1, R.kg0, R.kg1, R.kob, R.2.2.1.ob_, Option.bind_some, bI_0, R.2.1.g5, R.2.1.ra_ hi rfl, R.2.1.sob hi, R.2.1.miss hi, R.2.1.s0 hi, R.2.1.s1 hi, R.2.1.s2 hi]
        rw [if_neg (fun z => z c2)]
        simp only [K_within, K_isHanger, K_isKind, K_isSpot, K_isSheet, R_hasDeposit R.2.2.1, R_hasGirl R.2.2.1, R.kg0, R.kg1, R.kob, R.2.2.1.ob_, Option.bind_some, bI_0, K_finding R (i := 5) (x := 5) (by omega) rfl]
      · unfold F_M_write F_M_write_0 F_M_write_33 F_M_write_35
        simp only [M_in, M_isHanger, M_isPlace, M_isDeposit M, M_isGirl M, M.ob_, M.gr0, Option.bind_some, bI_0, M_nt_ms M hi c2]
        rw [if_neg (by decide), if_neg (by decide)]
        simp only [M_in, M_isHanger, M_isPlace, M_isDeposit M, M_isGirl M, M.ob_, M.gr0, Option.bind_some, bI_0, M_finds M (i := 5) (v := (-1000006)) (by omega) (by decide)]
    · by_cases c3 : 0 ≤ a2 ∧ a2 ≤ h 5 i - 1
      · obtain ⟨n, hn, en⟩ := (G.2.2.2.1 i hi).2.1
        have c3' := c3
        rw [en] at c3'
        obtain ⟨k, hk, rfl⟩ := (in_iff (by omega)).mp c3'
        let v : Int32 := if h 4 i = 8 then (Int32.toInt8 a3).toInt32 else if h 4 i = 16 then (Int32.toInt16 a3).toInt32 else a3
        have hv : v = if h 4 i = 8 then (Int32.toInt8 a3).toInt32 else if h 4 i = 16 then (Int32.toInt16 a3).toInt32 else a3 := rfl
        refine SP_cells R G hi (c' := upd (h 6) (40 * i + k) v) (fun j _ hj => nf_upo _ (by omega) hj v) (r1 := 1) (r2 := 1) ?_ (fun M => ?_) rfl
        · unfold F_K_write F_K_write_0
          simp only [K_within, K_isHanger, K_isKind, K_isSpot, K_isSheet, R_hasDeposit R.2.2.1, R_hasGirl R.2.2.1, R.kg0, R.kg1, R.kob, R.2.2.1.ob_, Option.bind_some, bI_0]
          rw [if_neg (fun z => z c1)]
          simp only [K_within, K_isHanger, K_isKind, K_isSpot, K_isSheet, R_hasDeposit R.2.2.1, R_hasGirl R.2.2.1, R.kg0, R.kg1, R.kob, R.2.2.1.ob_, Option.bind_some, bI_0, R.2.1.g5, R.2.1.ra_ hi rfl, R.2.1.sob hi, R.2.1.miss hi, R.2.1.s0 hi, R.2.1.s1 hi, R.2.1.s2 hi]
          rw [if_pos c2, if_neg (fun z => z c3)]
          unfold F_S_put F_S_put_0 F_S_put_61
          simp only [K_within, K_isHanger, K_isKind, K_isSpot, K_isSheet, R_hasDeposit R.2.2.1, R_hasGirl R.2.2.1, R.kg0, R.kg1, R.kob, R.2.2.1.ob_, Option.bind_some, bI_0, R.2.1.g5, R.2.1.ra_ hi rfl, R.2.1.sob hi, R.2.1.miss hi, R.2.1.s0 hi, R.2.1.s1 hi, R.2.1.s2 hi, R.2.1.swr hi (k := k) (by omega) rfl]
          rw [hv]
          by_cases e1 : h 4 i = 8
          · rw [if_pos e1, if_pos e1]; rfl
          · rw [if_neg e1, if_neg e1]
            by_cases e2 : h 4 i = 16
            · rw [if_pos e2, if_pos e2]; rfl
            · rw [if_neg e2, if_neg e2]; rfl
        · unfold F_M_write F_M_write_0 F_M_write_33 F_M_write_35
          simp only [M_in, M_isHanger, M_isPlace, M_isDeposit M, M_isGirl M, M.ob_, M.gr0, Option.bind_some, bI_0, M_isSheet, M.gr5, M.gr6, M.gr7, M_nt_ok M hi c2, M.rd5 hi rfl, M.rd4 hi rfl]
          rw [if_pos trivial, if_neg (fun z => z c3), if_pos trivial]
          unfold F_M_write_92
          simp only [M_in, M_isHanger, M_isPlace, M_isDeposit M, M_isGirl M, M.ob_, M.gr0, Option.bind_some, bI_0, M_isSheet, M.gr5, M.gr6, M.gr7, n40, M.wr6 (k := 40 * i + k) (by omega) rfl]
          rw [hv]
          by_cases e1 : h 4 i = 8
          · rw [if_pos e1, if_pos e1]
          · rw [if_neg e1, if_neg e1]
            by_cases e2 : h 4 i = 16
            · rw [if_pos e2, if_pos e2]
            · rw [if_neg e2, if_neg e2]
      · refine SP_fd R G (i := 0) (r1 := (-1000001) - 0) (r2 := (-1000001)) ?_ (fun M => ?_) (by decide)
        · unfold F_K_write F_K_write_0
          simp only [K_within, K_isHanger, K_isKind, K_isSpot, K_isSheet, R_hasDeposit R.2.2.1, R_hasGirl R.2.2.1, R.kg0, R.kg1, R.kob, R.2.2.1.ob_, Option.bind_some, bI_0]
          rw [if_neg (fun z => z c1)]
          simp only [K_within, K_isHanger, K_isKind, K_isSpot, K_isSheet, R_hasDeposit R.2.2.1, R_hasGirl R.2.2.1, R.kg0, R.kg1, R.kob, R.2.2.1.ob_, Option.bind_some, bI_0, R.2.1.g5, R.2.1.ra_ hi rfl, R.2.1.sob hi, R.2.1.miss hi, R.2.1.s0 hi, R.2.1.s1 hi, R.2.1.s2 hi]
          rw [if_pos c2, if_pos c3]
          simp only [K_within, K_isHanger, K_isKind, K_isSpot, K_isSheet, R_hasDeposit R.2.2.1, R_hasGirl R.2.2.1, R.kg0, R.kg1, R.kob, R.2.2.1.ob_, Option.bind_some, bI_0, K_finding R (i := 0) (x := 0) (by omega) rfl]
        · unfold F_M_write F_M_write_0 F_M_write_35
          simp only [M_in, M_isHanger, M_isPlace, M_isDeposit M, M_isGirl M, M.ob_, M.gr0, Option.bind_some, bI_0, M_isSheet, M.gr5, M.gr6, M.gr7, M_nt_ok M hi c2, M.rd5 hi rfl]
          rw [if_pos trivial, if_pos c3, if_neg (by decide)]
          simp only [M_in, M_isHanger, M_isPlace, M_isDeposit M, M_isGirl M, M.ob_, M.gr0, Option.bind_some, bI_0, M_finds M (i := 0) (v := (-1000001)) (by omega) (by decide)]
  · refine SP_fd R G (i := 0) (r1 := (-1000001) - 0) (r2 := (-1000001)) ?_ (fun M => ?_) (by decide)
    · unfold F_K_write F_K_write_0
      simp only [K_within, K_isHanger, K_isKind, K_isSpot, K_isSheet, R_hasDeposit R.2.2.1, R_hasGirl R.2.2.1, R.kg0, R.kg1, R.kob, R.2.2.1.ob_, Option.bind_some, bI_0]
      rw [if_pos c1]
      simp only [K_within, K_isHanger, K_isKind, K_isSpot, K_isSheet, R_hasDeposit R.2.2.1, R_hasGirl R.2.2.1, R.kg0, R.kg1, R.kob, R.2.2.1.ob_, Option.bind_some, bI_0, K_finding R (i := 0) (x := 0) (by omega) rfl]
    · unfold F_M_write F_M_write_0 F_M_write_33 F_M_write_35
      simp only [M_in, M_isHanger, M_isPlace, M_isDeposit M, M_isGirl M, M.ob_, M.gr0, Option.bind_some, bI_0, M_nt_no M c1]
      rw [if_neg (by decide), if_neg (by decide)]
      simp only [M_in, M_isHanger, M_isPlace, M_isDeposit M, M_isGirl M, M.ob_, M.gr0, Option.bind_some, bI_0, M_finds M (i := 0) (v := (-1000001)) (by omega) (by decide)]
def ldN (c : Nat → Int32) (i : Nat) : Nat → Nat → (Nat → Int32) → Nat × (Nat → Int32)
  | 0, d, f => (d, f)
  | k + 1, d, f => if 0 ≤ c (40 * i + d) ∧ c (40 * i + d) ≤ 99 then ldN c i k (d + 1) (upd f (13 + 6 * d) (c (40 * i + d))) else (d, f)
theorem ldN_Wf (c : Nat → Int32) (i : Nat) : ∀ (k d : Nat) (f : Nat → Int32), d + k ≤ 8 → Wf f → Wf (ldN c i k d f).2 ∧ dep (ldN c i k d f).2 = dep f := by
  intro k
  induction k with
  | zero => intro d f _ h; exact ⟨h, rfl⟩
  | succ k ih =>
    intro d f hd h
    rw [ldN]
    split
    · rename_i c2
      obtain ⟨j, -, hj, ej⟩ := btw (m := 0) (n := 99) rfl rfl (by omega) (by omega) c2
      have wf := Wf_item h (d := d) (e := 2) (v := c (40 * i + d)) (by omega) (by omega) (by rw [ej, nI_toInt (by omega)]; omega) (by rw [ej, nI_toInt (by omega)]; show (j : Int) ≤ 99; omega)
      rw [show 11 + 6 * d + 2 = 13 + 6 * d by omega] at wf
      have h1 := ih (d + 1) _ (by omega) wf
      refine ⟨h1.1, h1.2.trans ?_⟩
      unfold dep; rw [upd_n (by omega)]
    · exact ⟨h, rfl⟩
theorem K_load_loop {lk : Int32} {fd b z c q tp : Nat → Int32} {i n : Nat} (hi : i < 4) (hn : n ≤ 8) : ∀ (m k d : Nat) (w : A_W) (f : Nat → Int32) (x : Int32), KX w lk fd b z c q tp → RC w 1 f → x = nI d → d + k = n → k < m → F_K_load_53 m 0 (nI i) (nI n) x w = some (nI (ldN c i k d f).1, rW w 1 (ldN c i k d f).2) := by
  intro m
  induction m with
  | zero => intro k d w f x _ _ _ _ hk; exact absurd hk (by omega)
  | succ m ih =>
    intro k d w f x K R hx hk hm
    rw [F_K_load_53, hx]
    cases k with
    | zero =>
      rw [if_pos (nI_le (by omega) (by omega)), ldN, R.rW_id, show n = d by omega]
    | succ k =>
      rw [if_neg (fun z => by rw [nI_leI (by omega) (by omega)] at z; omega)]
      simp only [K.g5, K.g0, Option.bind_some, K.ra_ hi rfl, K.s2 hi, K.srd hi (k := d) (by omega) rfl, K_within, bI_0, R.a_gr8, R.a_wr_stub (i := d) (by omega) rfl]
      rw [ldN]
      by_cases c2 : 0 ≤ c (40 * i + d) ∧ c (40 * i + d) ≤ 99
      · rw [if_neg (fun z => z c2), if_pos c2]
        have h3 := ih k (d + 1) _ _ (nI d + 1) (KX_rW K (t := 1) (by omega) (by omega) (upd f (13 + 6 * d) (c (40 * i + d)))) (R.set _) (nI_1 d) (by omega) (by omega)
        rw [rW_rW] at h3
        exact h3
      · rw [if_pos c2, if_neg c2, R.rW_id]
theorem M_load_loop {s : Nat → Int32} {i n z : Nat} {c : Nat → Int32} (hi : i < 4) (hz : z ≤ 40) : ∀ (m k d : Nat) (w : A_W) (h : Nat → Nat → Int32) (x : Int32), MM w h s → Wf (h 0) → h 5 i = nI z → h 6 = c → n = min z (dep (h 0)) → x = nI d → d + k = n → k < m → F_M_load_18 m 49 (nI i) x w = some (nI (ldN c i k d (h 0)).1, mW w 0 (ldN c i k d (h 0)).2) := by
  intro m
  induction m with
  | zero => intro k d w h x _ _ _ _ _ _ _ hk; exact absurd hk (by omega)
  | succ m ih =>
    intro k d w h x M hf e5 e6 en hx hk hm
    obtain ⟨d8, e3⟩ := Wf_dep hf
    rw [F_M_load_18, hx]
    unfold F_M_load_81
    simp only [M.gr6, M.gr0, M.gr7, Option.bind_some, M.rd5 hi rfl, M.rd0 (i := 3) (x := 3) (by omega) rfl]
    rw [e5, e3]
    cases k with
    | zero =>
      rw [ldN, M.mW_id (by omega)]
      by_cases c2 : z ≤ d
      · rw [if_pos (nI_le c2 (by omega))]
      · rw [if_neg (fun y => by rw [nI_leI (by omega) (by omega)] at y; omega), if_pos (nI_le (by omega) (by omega))]
    | succ k =>
      rw [if_neg (fun y => by rw [nI_leI (by omega) (by omega)] at y; omega), if_neg (fun y => by rw [nI_leI (by omega) (by omega)] at y; omega)]
      simp only [n40, M.rd6 (k := 40 * i + d) (by omega) rfl, M_in, Option.bind_some, bI_0, M.ob_, M_put M (d := d) (e := 2) (y := 2) (by omega) (by omega) rfl rfl, e6]
      rw [show 11 + 6 * d + 2 = 13 + 6 * d by omega, ldN]
      by_cases c2 : 0 ≤ c (40 * i + d) ∧ c (40 * i + d) ≤ 99
      · rw [if_neg (fun z => z c2), if_pos c2]
        obtain ⟨j, -, hj, ej⟩ := btw (m := 0) (n := 99) rfl rfl (by omega) (by omega) c2
        have wf := Wf_item hf (d := d) (e := 2) (v := c (40 * i + d)) (by omega) (by omega) (by rw [ej, nI_toInt (by omega)]; omega) (by rw [ej, nI_toInt (by omega)]; show (j : Int) ≤ 99; omega)
        rw [show 11 + 6 * d + 2 = 13 + 6 * d by omega] at wf
        have ed : dep (upd (h 0) (13 + 6 * d) (c (40 * i + d))) = dep (h 0) := by unfold dep; rw [upd_n (by omega)]
        have h3 := ih k (d + 1) _ _ (nI d + 1) (M.st0 (upd (h 0) (13 + 6 * d) (c (40 * i + d)))) (by rw [hset_self]; exact wf) (by rw [hset_ne _ _ (by omega)]; exact e5) (by rw [hset_ne _ _ (by omega)]; exact e6) (by rw [hset_self, ed]; exact en) (nI_1 d) (by omega) (by omega)
        rw [hset_self, mW_mW] at h3
        simp only [M.gr7, Option.bind_some, M.rd6 (k := 40 * i + d) (by omega) rfl, e6]
        exact h3
      · rw [if_pos c2, if_neg c2, M.mW_id (by omega)]
theorem jmin_n {x y : Int32} {a b : Nat} (hx : x = nI a) (hy : y = nI b) (ha : a < 2 ^ 31) (hb : b < 2 ^ 31) : jmin x y = nI (min a b) := by
  subst hx; subst hy
  unfold jmin
  by_cases c : a ≤ b
  · first | rw [if_pos (nI_le c hb), Nat.min_eq_left c] | (rw [if_neg (nI_nlt c hb), Nat.min_eq_left c])
  · first | rw [if_neg (fun z => by rw [nI_leI ha hb] at z; omega), Nat.min_eq_right (by omega)] | (rw [if_pos (nI_lt (by omega) ha), Nat.min_eq_right (by omega)])
theorem st36 : St36 Rel := by
  intro a1 w ⟨h, s, g2, g3, q, R, G⟩
  by_cases c1 : 0 ≤ a1 ∧ a1 ≤ 3
  · have c1' := c1
    obtain ⟨i, -, hi3, rfl⟩ := btw (m := 0) (n := 3) rfl rfl (by omega) (by omega) c1'
    have hi : i < 4 := by omega
    by_cases c2 : h 4 i = 0
    · refine SP_fd R G (i := 5) (r1 := (-1000001) - 5) (r2 := (-1000006)) ?_ (fun M => ?_) (by decide)
      · unfold F_K_load F_K_load_0
        simp only [K_within, K_isHanger, K_isKind, K_isSpot, K_isSheet, R_hasDeposit R.2.2.1, R_hasGirl R.2.2.1, R.kg0, R.kg1, R.kob, R.2.2.1.ob_, Option.bind_some, bI_0]
        rw [if_neg (fun z => z c1)]
        simp only [K_within, K_isHanger, K_isKind, K_isSpot, K_isSheet, R_hasDeposit R.2.2.1, R_hasGirl R.2.2.1, R.kg0, R.kg1, R.kob, R.2.2.1.ob_, Option.bind_some, bI_0, R.2.1.g5, R.2.1.ra_ hi rfl, R.2.1.sob hi, R.2.1.miss hi, R.2.1.s0 hi, R.2.1.s1 hi, R.2.1.s2 hi]
        rw [if_neg (fun z => z c2)]
        simp only [K_within, K_isHanger, K_isKind, K_isSpot, K_isSheet, R_hasDeposit R.2.2.1, R_hasGirl R.2.2.1, R.kg0, R.kg1, R.kob, R.2.2.1.ob_, Option.bind_some, bI_0, K_finding R (i := 5) (x := 5) (by omega) rfl]
      · unfold F_M_load F_M_load_0
        simp only [M_in, M_isHanger, M_isPlace, M_isDeposit M, M_isGirl M, M.ob_, M.gr0, Option.bind_some, bI_0, M_nt_ms M hi c2]
        rw [if_neg (by decide)]
        simp only [M_in, M_isHanger, M_isPlace, M_isDeposit M, M_isGirl M, M.ob_, M.gr0, Option.bind_some, bI_0, M_finds M (i := 5) (v := (-1000006)) (by omega) (by decide)]
    · obtain ⟨n, hn, en⟩ := (G.2.2.2.1 i hi).2.1
      have d8 := Wf_dep G.1
      have wf := (ldN_Wf (h 6) i (min n (dep (h 0))) 0 (h 0) (by omega) G.1).1
      refine SP_row R G (f := (ldN (h 6) i (min n (dep (h 0))) 0 (h 0)).2) wf (r1 := nI (ldN (h 6) i (min n (dep (h 0))) 0 (h 0)).1) (r2 := nI (ldN (h 6) i (min n (dep (h 0))) 0 (h 0)).1) ?_ (fun M => ?_) rfl
      · unfold F_K_load F_K_load_0
        simp only [K_within, K_isHanger, K_isKind, K_isSpot, K_isSheet, R_hasDeposit R.2.2.1, R_hasGirl R.2.2.1, R.kg0, R.kg1, R.kob, R.2.2.1.ob_, Option.bind_some, bI_0]
        rw [if_neg (fun z => z c1)]
        simp only [K_within, K_isHanger, K_isKind, K_isSpot, K_isSheet, R_hasDeposit R.2.2.1, R_hasGirl R.2.2.1, R.kg0, R.kg1, R.kob, R.2.2.1.ob_, Option.bind_some, bI_0, R.2.1.g5, R.2.1.ra_ hi rfl, R.2.1.sob hi, R.2.1.miss hi, R.2.1.s0 hi, R.2.1.s1 hi, R.2.1.s2 hi]
        rw [if_pos c2]
        simp only [K_within, K_isHanger, K_isKind, K_isSpot, K_isSheet, R_hasDeposit R.2.2.1, R_hasGirl R.2.2.1, R.kg0, R.kg1, R.kob, R.2.2.1.ob_, Option.bind_some, bI_0, R.2.1.g5, R.2.1.ra_ hi rfl, R.2.1.sob hi, R.2.1.miss hi, R.2.1.s0 hi, R.2.1.s1 hi, R.2.1.s2 hi, R.2.2.1.gi3]
        rw [jmin_n en d8.2 (by omega) (by omega)]
        exact K_load_loop (n := min n (dep (h 0))) hi (by omega) FU (min n (dep (h 0))) 0 w (h 0) 0 R.2.1 R.2.2.1 rfl (by omega) (by unfold FU; omega)
      · unfold F_M_load F_M_load_0
        simp only [M_in, M_isHanger, M_isPlace, M_isDeposit M, M_isGirl M, M.ob_, M.gr0, Option.bind_some, bI_0, M_isSheet, M.gr5, M.gr6, M.gr7, M_nt_ok M hi c2]
        rw [if_pos trivial]
        exact M_load_loop (s := s) (n := min n (dep (h 0))) (z := n) (c := h 6) hi hn FU (min n (dep (h 0))) 0 _ h 0 M G.1 en rfl rfl rfl (by omega) (by unfold FU; omega)
  · refine SP_fd R G (i := 0) (r1 := (-1000001) - 0) (r2 := (-1000001)) ?_ (fun M => ?_) (by decide)
    · unfold F_K_load F_K_load_0
      simp only [K_within, K_isHanger, K_isKind, K_isSpot, K_isSheet, R_hasDeposit R.2.2.1, R_hasGirl R.2.2.1, R.kg0, R.kg1, R.kob, R.2.2.1.ob_, Option.bind_some, bI_0]
      rw [if_pos c1]
      simp only [K_within, K_isHanger, K_isKind, K_isSpot, K_isSheet, R_hasDeposit R.2.2.1, R_hasGirl R.2.2.1, R.kg0, R.kg1, R.kob, R.2.2.1.ob_, Option.bind_some, bI_0, K_finding R (i := 0) (x := 0) (by omega) rfl]
    · unfold F_M_load F_M_load_0
      simp only [M_in, M_isHanger, M_isPlace, M_isDeposit M, M_isGirl M, M.ob_, M.gr0, Option.bind_some, bI_0, M_nt_no M c1]
      rw [if_neg (by decide)]
      simp only [M_in, M_isHanger, M_isPlace, M_isDeposit M, M_isGirl M, M.ob_, M.gr0, Option.bind_some, bI_0, M_finds M (i := 0) (v := (-1000001)) (by omega) (by decide)]
def jdN (c f : Nat → Int32) (i n : Nat) : Nat → Nat → Int32
  | 0, _ => 0
  | k + 1, d => if d < n ∧ f (15 + 6 * d) = c (40 * i + d) then jdN c f i n k (d + 1) else nI (1 + d)
theorem K_judge_loop {lk : Int32} {fd b z c q tp : Nat → Int32} {i n : Nat} (hi : i < 4) (hn : n ≤ 40) {w : A_W} {f : Nat → Int32} (K : KX w lk fd b z c q tp) (ez : z i = nI n) (R : RC w 1 f) (hf : Wf f) : ∀ (m k d : Nat) (x : Int32), x = nI d → d + k = n → k < m → F_K_judge_33 m 0 (nI i) x w = some (jdN c f i (dep f) k d, w) := by
  intro m
  induction m with
  | zero => intro k d x _ _ hk; exact absurd hk (by omega)
  | succ m ih =>
    intro k d x hx hk hm
    obtain ⟨d8, e3⟩ := Wf_dep hf
    rw [F_K_judge_33, hx]
    unfold F_K_judge_80
    simp only [K.g5, K.g0, Option.bind_some, K.ra_ hi rfl, K.s1 hi, ez, R.ob_, R_hasDeposit R, bI_0]
    rw [e3]
    cases k with
    | zero => rw [if_pos (nI_le (by omega) (by omega)), jdN]
    | succ k =>
      rw [if_neg (fun z => by rw [nI_leI (by omega) (by omega)] at z; omega), jdN]
      by_cases c2 : d < dep f
      · rw [if_neg (fun z => z ((in_iff (by omega)).mpr ⟨d, c2, rfl⟩))]
        simp only [R.a_gr10, R.a_rd_worn (i := d) (by omega) rfl, K.s2 hi, K.srd hi (k := d) (by omega) rfl, Option.bind_some]
        by_cases c3 : f (15 + 6 * d) = c (40 * i + d)
        · rw [if_pos c3, if_pos ⟨c2, c3⟩]
          exact ih k (d + 1) _ (nI_1 d) (by omega) (by omega)
        · rw [if_neg c3, if_neg (fun z => c3 z.2)]
          exact congrArg (fun v => some (v, w)) (nI_add 1 d)
      · rw [if_pos (fun z => c2 (by obtain ⟨j, hj, e⟩ := (in_iff (by omega)).mp z; rw [nI_eq (by omega) (by omega)] at e; omega)), if_neg (fun z => c2 z.1)]
        exact congrArg (fun v => some (v, w)) (nI_add 1 d)
theorem M_judge_loop {s : Nat → Int32} {i n : Nat} {w : A_W} {h : Nat → Nat → Int32} (hi : i < 4) (hn : n ≤ 40) (M : MM w h s) (hf : Wf (h 0)) (ez : h 5 i = nI n) : ∀ (m k d : Nat) (x : Int32), x = nI d → d + k = n → k < m → F_M_judge_18 m 49 (nI i) x w = some (jdN (h 6) (h 0) i (dep (h 0)) k d, w) := by
  intro m
  induction m with
  | zero => intro k d x _ _ hk; exact absurd hk (by omega)
  | succ m ih =>
    intro k d x hx hk hm
    obtain ⟨d8, e3⟩ := Wf_dep hf
    rw [F_M_judge_18, hx]
    unfold F_M_judge_56
    simp only [M.gr6, M.gr7, Option.bind_some, M.rd5 hi rfl, ez, M.ob_, M_isDeposit M, bI_0]
    rw [e3]
    cases k with
    | zero => rw [if_pos (nI_le (by omega) (by omega)), jdN]
    | succ k =>
      rw [if_neg (fun z => by rw [nI_leI (by omega) (by omega)] at z; omega), jdN]
      by_cases c2 : d < dep (h 0)
      · rw [if_neg (fun z => z ((in_iff (by omega)).mpr ⟨d, c2, rfl⟩))]
        simp only [n40, M.rd6 (k := 40 * i + d) (by omega) rfl, M.ob_, M_it M (d := d) (e := 4) (y := 4) (by omega) (by omega) rfl rfl, Option.bind_some]
        rw [show 11 + 6 * d + 4 = 15 + 6 * d by omega]
        by_cases c3 : h 0 (15 + 6 * d) = h 6 (40 * i + d)
        · rw [if_pos c3.symm, if_pos ⟨c2, c3⟩]
          exact ih k (d + 1) _ (nI_1 d) (by omega) (by omega)
        · rw [if_neg (fun z => c3 z.symm), if_neg (fun z => c3 z.2)]
          exact congrArg (fun v => some (v, w)) (nI_add 1 d)
      · rw [if_pos (fun z => c2 (by obtain ⟨j, hj, e⟩ := (in_iff (by omega)).mp z; rw [nI_eq (by omega) (by omega)] at e; omega)), if_neg (fun z => c2 z.1)]
        exact congrArg (fun v => some (v, w)) (nI_add 1 d)
theorem st37 : St37 Rel := by
  intro a1 w ⟨h, s, g2, g3, q, R, G⟩
  by_cases c1 : 0 ≤ a1 ∧ a1 ≤ 3
  · have c1' := c1
    obtain ⟨i, -, hi3, rfl⟩ := btw (m := 0) (n := 3) rfl rfl (by omega) (by omega) c1'
    have hi : i < 4 := by omega
    by_cases c2 : h 4 i = 0
    · refine SP_fd R G (i := 5) (r1 := (-1000001) - 5) (r2 := (-1000006)) ?_ (fun M => ?_) (by decide)
      · unfold F_K_judge F_K_judge_0
        simp only [K_within, K_isHanger, K_isKind, K_isSpot, K_isSheet, R_hasDeposit R.2.2.1, R_hasGirl R.2.2.1, R.kg0, R.kg1, R.kob, R.2.2.1.ob_, Option.bind_some, bI_0]
        rw [if_neg (fun z => z c1)]
        simp only [K_within, K_isHanger, K_isKind, K_isSpot, K_isSheet, R_hasDeposit R.2.2.1, R_hasGirl R.2.2.1, R.kg0, R.kg1, R.kob, R.2.2.1.ob_, Option.bind_some, bI_0, R.2.1.g5, R.2.1.ra_ hi rfl, R.2.1.sob hi, R.2.1.miss hi, R.2.1.s0 hi, R.2.1.s1 hi, R.2.1.s2 hi]
        rw [if_neg (fun z => z c2)]
        simp only [K_within, K_isHanger, K_isKind, K_isSpot, K_isSheet, R_hasDeposit R.2.2.1, R_hasGirl R.2.2.1, R.kg0, R.kg1, R.kob, R.2.2.1.ob_, Option.bind_some, bI_0, K_finding R (i := 5) (x := 5) (by omega) rfl]
      · unfold F_M_judge F_M_judge_0
        simp only [M_in, M_isHanger, M_isPlace, M_isDeposit M, M_isGirl M, M.ob_, M.gr0, Option.bind_some, bI_0, M_nt_ms M hi c2]
        rw [if_neg (by decide)]
        simp only [M_in, M_isHanger, M_isPlace, M_isDeposit M, M_isGirl M, M.ob_, M.gr0, Option.bind_some, bI_0, M_finds M (i := 5) (v := (-1000006)) (by omega) (by decide)]
    · obtain ⟨n, hn, en⟩ := (G.2.2.2.1 i hi).2.1
      refine SP_id R G (r1 := jdN (h 6) (h 0) i (dep (h 0)) n 0) (r2 := jdN (h 6) (h 0) i (dep (h 0)) n 0) ?_ ?_ rfl
      · unfold F_K_judge F_K_judge_0
        simp only [K_within, K_isHanger, K_isKind, K_isSpot, K_isSheet, R_hasDeposit R.2.2.1, R_hasGirl R.2.2.1, R.kg0, R.kg1, R.kob, R.2.2.1.ob_, Option.bind_some, bI_0]
        rw [if_neg (fun z => z c1)]
        simp only [K_within, K_isHanger, K_isKind, K_isSpot, K_isSheet, R_hasDeposit R.2.2.1, R_hasGirl R.2.2.1, R.kg0, R.kg1, R.kob, R.2.2.1.ob_, Option.bind_some, bI_0, R.2.1.g5, R.2.1.ra_ hi rfl, R.2.1.sob hi, R.2.1.miss hi, R.2.1.s0 hi, R.2.1.s1 hi, R.2.1.s2 hi]
        rw [if_pos c2]
        exact K_judge_loop hi hn R.2.1 en R.2.2.1 G.1 FU n 0 0 rfl (by omega) (by unfold FU; omega)
      · have M := R.1
        unfold F_M_judge F_M_judge_0
        simp only [M_in, M_isHanger, M_isPlace, M_isDeposit M, M_isGirl M, M.ob_, M.gr0, Option.bind_some, bI_0, M_isSheet, M.gr5, M.gr6, M.gr7, M_nt_ok M hi c2]
        rw [if_pos trivial]
        exact M_judge_loop hi hn M G.1 en FU n 0 0 rfl (by omega) (by unfold FU; omega)
  · refine SP_fd R G (i := 0) (r1 := (-1000001) - 0) (r2 := (-1000001)) ?_ (fun M => ?_) (by decide)
    · unfold F_K_judge F_K_judge_0
      simp only [K_within, K_isHanger, K_isKind, K_isSpot, K_isSheet, R_hasDeposit R.2.2.1, R_hasGirl R.2.2.1, R.kg0, R.kg1, R.kob, R.2.2.1.ob_, Option.bind_some, bI_0]
      rw [if_pos c1]
      simp only [K_within, K_isHanger, K_isKind, K_isSpot, K_isSheet, R_hasDeposit R.2.2.1, R_hasGirl R.2.2.1, R.kg0, R.kg1, R.kob, R.2.2.1.ob_, Option.bind_some, bI_0, K_finding R (i := 0) (x := 0) (by omega) rfl]
    · unfold F_M_judge F_M_judge_0
      simp only [M_in, M_isHanger, M_isPlace, M_isDeposit M, M_isGirl M, M.ob_, M.gr0, Option.bind_some, bI_0, M_nt_no M c1]
      rw [if_neg (by decide)]
      simp only [M_in, M_isHanger, M_isPlace, M_isDeposit M, M_isGirl M, M.ob_, M.gr0, Option.bind_some, bI_0, M_finds M (i := 0) (v := (-1000001)) (by omega) (by decide)]
