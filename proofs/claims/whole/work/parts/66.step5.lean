theorem st15 : St15 Rel := by
  intro a1 a2 w ⟨h, s, g2, g3, q, R, G⟩
  by_cases c1 : 0 ≤ a1 ∧ a1 ≤ h 0 4 - 1
  · by_cases c2 : 0 ≤ a2 ∧ a2 ≤ 9999
    · have hc := c1
      rw [(Wf_grl G.1).2] at hc
      obtain ⟨d, hd, rfl⟩ := (in_iff (by have := Wf_grl G.1; omega)).mp hc
      have hd6 : d < 6 := by have := Wf_grl G.1; omega
      have hg : ∀ (w : A_W) (f : Nat → Int32), RC w 13 f → F_R_gauge 13 0 (nI d) w = some (f (61 + 3 * d), w) := by
        intro w f hR
        unfold F_R_gauge F_R_gauge_0
        rw [if_pos (by decide)]
        simp only [hR.b_gr14, hR.b_rd_met hd6 rfl, Option.bind_some]
      have kd := K_fewestDays R G.1 (v := a2) hg
      cases hm : (muN (61 + 3 * d) a2 201 0 (h 0)).1 with
      | some j =>
        refine SP_tr R G (t := (muN (61 + 3 * d) a2 201 0 (h 0)).2) (r1 := nI j) (r2 := nI j) ?_ (fun M => ?_) rfl
        · rw [hm] at kd
          unfold F_K_meets F_K_meets_0
          simp only [K_within, K_isHanger, K_isKind, K_isSpot, K_isSheet, R_hasDeposit R.2.2.1, R_hasGirl R.2.2.1, R.kg0, R.kg1, R.kob, R.2.2.1.ob_, Option.bind_some, bI_0]
          rw [if_neg (fun z => z c1), if_neg (fun z => z c2)]
          simp only [K_within, K_isHanger, K_isKind, K_isSpot, K_isSheet, R_hasDeposit R.2.2.1, R_hasGirl R.2.2.1, R.kg0, R.kg1, R.kob, R.2.2.1.ob_, Option.bind_some, bI_0, kd]
        · have md := M_muchIn M G.1 (v := a2) (p := 61 + 3 * d) (x := (59 + (3 * nI d)) + 2) (by omega) ((n59 (d := d) (e := 2) rfl rfl).trans (by congr 1; omega))
          rw [hm] at md
          unfold F_M_meets F_M_meets_0 F_M_meets_41
          simp only [M_in, M_isHanger, M_isPlace, M_isDeposit M, M_isGirl M, M.ob_, M.gr0, Option.bind_some, bI_0]
          rw [if_neg (fun z => z c1), if_neg (fun z => z c2)]
          simp only [M_in, M_isHanger, M_isPlace, M_isDeposit M, M_isGirl M, M.ob_, M.gr0, Option.bind_some, bI_0, md]
      | none =>
        refine SP_trf R G (i := 3) (t := (muN (61 + 3 * d) a2 201 0 (h 0)).2) (r1 := (-1000001) - 3) (r2 := (-1000004)) ?_ (fun M => ?_) (by decide)
        · rw [hm] at kd
          unfold F_K_meets F_K_meets_0
          simp only [K_within, K_isHanger, K_isKind, K_isSpot, K_isSheet, R_hasDeposit R.2.2.1, R_hasGirl R.2.2.1, R.kg0, R.kg1, R.kob, R.2.2.1.ob_, Option.bind_some, bI_0]
          rw [if_neg (fun z => z c1), if_neg (fun z => z c2)]
          simp only [K_within, K_isHanger, K_isKind, K_isSpot, K_isSheet, R_hasDeposit R.2.2.1, R_hasGirl R.2.2.1, R.kg0, R.kg1, R.kob, R.2.2.1.ob_, Option.bind_some, bI_0, kd]
        · have md := M_muchIn M G.1 (v := a2) (p := 61 + 3 * d) (x := (59 + (3 * nI d)) + 2) (by omega) ((n59 (d := d) (e := 2) rfl rfl).trans (by congr 1; omega))
          rw [hm] at md
          unfold F_M_meets F_M_meets_0 F_M_meets_41
          simp only [M_in, M_isHanger, M_isPlace, M_isDeposit M, M_isGirl M, M.ob_, M.gr0, Option.bind_some, bI_0]
          rw [if_neg (fun z => z c1), if_neg (fun z => z c2)]
          simp only [M_in, M_isHanger, M_isPlace, M_isDeposit M, M_isGirl M, M.ob_, M.gr0, Option.bind_some, bI_0, md]
    · refine SP_fd R G (i := 0) (r1 := (-1000001) - 0) (r2 := (-1000001)) ?_ (fun M => ?_) (by decide)
      · unfold F_K_meets F_K_meets_0 F_K_meets_22
        simp only [K_within, K_isHanger, K_isKind, K_isSpot, K_isSheet, R_hasDeposit R.2.2.1, R_hasGirl R.2.2.1, R.kg0, R.kg1, R.kob, R.2.2.1.ob_, Option.bind_some, bI_0]
        rw [if_neg (fun z => z c1), if_pos c2]
        simp only [K_within, K_isHanger, K_isKind, K_isSpot, K_isSheet, R_hasDeposit R.2.2.1, R_hasGirl R.2.2.1, R.kg0, R.kg1, R.kob, R.2.2.1.ob_, Option.bind_some, bI_0, K_finding R (i := 0) (x := 0) (by omega) rfl]
      · unfold F_M_meets F_M_meets_0 F_M_meets_35 F_M_meets_41
        simp only [M_in, M_isHanger, M_isPlace, M_isDeposit M, M_isGirl M, M.ob_, M.gr0, Option.bind_some, bI_0]
        rw [if_neg (fun z => z c1), if_pos c2]
        simp only [M_in, M_isHanger, M_isPlace, M_isDeposit M, M_isGirl M, M.ob_, M.gr0, Option.bind_some, bI_0, M_finds M (i := 0) (v := (-1000001)) (by omega) (by decide)]
  · refine SP_fd R G (i := 0) (r1 := (-1000001) - 0) (r2 := (-1000001)) ?_ (fun M => ?_) (by decide)
    · unfold F_K_meets F_K_meets_0 F_K_meets_22
      simp only [K_within, K_isHanger, K_isKind, K_isSpot, K_isSheet, R_hasDeposit R.2.2.1, R_hasGirl R.2.2.1, R.kg0, R.kg1, R.kob, R.2.2.1.ob_, Option.bind_some, bI_0]
      rw [if_pos c1]
      simp only [K_within, K_isHanger, K_isKind, K_isSpot, K_isSheet, R_hasDeposit R.2.2.1, R_hasGirl R.2.2.1, R.kg0, R.kg1, R.kob, R.2.2.1.ob_, Option.bind_some, bI_0, K_finding R (i := 0) (x := 0) (by omega) rfl]
    · unfold F_M_meets F_M_meets_0 F_M_meets_35 F_M_meets_41
      simp only [M_in, M_isHanger, M_isPlace, M_isDeposit M, M_isGirl M, M.ob_, M.gr0, Option.bind_some, bI_0]
      rw [if_pos c1]
      simp only [M_in, M_isHanger, M_isPlace, M_isDeposit M, M_isGirl M, M.ob_, M.gr0, Option.bind_some, bI_0, M_finds M (i := 0) (v := (-1000001)) (by omega) (by decide)]
theorem st16 : St16 Rel := by
  intro a1 a2 w ⟨h, s, g2, g3, q, R, G⟩
  by_cases c1 : 0 ≤ a1 ∧ a1 ≤ h 0 3 - 1
  · by_cases c2 : 0 ≤ a2 ∧ a2 ≤ 99
    · have hc := c1
      rw [(Wf_dep G.1).2] at hc
      obtain ⟨d, hd, rfl⟩ := (in_iff (by have := Wf_dep G.1; omega)).mp hc
      have hd8 : d < 8 := by have := Wf_dep G.1; omega
      have hg : ∀ (w : A_W) (f : Nat → Int32), RC w 13 f → F_R_gauge 13 1 (nI d) w = some (f (15 + 6 * d), w) := by
        intro w f hR
        unfold F_R_gauge F_R_gauge_0
        rw [if_neg (by decide), if_pos (by decide)]
        simp only [hR.b_gr10, hR.b_rd_worn hd8 rfl, Option.bind_some]
      have kd := K_fewestDays R G.1 (v := a2) hg
      cases hm : (muN (15 + 6 * d) a2 201 0 (h 0)).1 with
      | some j =>
        refine SP_tr R G (t := (muN (15 + 6 * d) a2 201 0 (h 0)).2) (r1 := nI j) (r2 := nI j) ?_ (fun M => ?_) rfl
        · rw [hm] at kd
          unfold F_K_threadbare F_K_threadbare_0
          simp only [K_within, K_isHanger, K_isKind, K_isSpot, K_isSheet, R_hasDeposit R.2.2.1, R_hasGirl R.2.2.1, R.kg0, R.kg1, R.kob, R.2.2.1.ob_, Option.bind_some, bI_0]
          rw [if_neg (fun z => z c1), if_neg (fun z => z c2)]
          simp only [K_within, K_isHanger, K_isKind, K_isSpot, K_isSheet, R_hasDeposit R.2.2.1, R_hasGirl R.2.2.1, R.kg0, R.kg1, R.kob, R.2.2.1.ob_, Option.bind_some, bI_0, kd]
        · have md := M_muchIn M G.1 (v := a2) (p := 15 + 6 * d) (x := (11 + (6 * nI d)) + 4) (by omega) ((n11 (d := d) (e := 4) rfl rfl).trans (by congr 1; omega))
          rw [hm] at md
          unfold F_M_threadbare F_M_threadbare_0 F_M_threadbare_41
          simp only [M_in, M_isHanger, M_isPlace, M_isDeposit M, M_isGirl M, M.ob_, M.gr0, Option.bind_some, bI_0]
          rw [if_neg (fun z => z c1), if_neg (fun z => z c2)]
          simp only [M_in, M_isHanger, M_isPlace, M_isDeposit M, M_isGirl M, M.ob_, M.gr0, Option.bind_some, bI_0, md]
      | none =>
        refine SP_trf R G (i := 3) (t := (muN (15 + 6 * d) a2 201 0 (h 0)).2) (r1 := (-1000001) - 3) (r2 := (-1000004)) ?_ (fun M => ?_) (by decide)
        · rw [hm] at kd
          unfold F_K_threadbare F_K_threadbare_0
          simp only [K_within, K_isHanger, K_isKind, K_isSpot, K_isSheet, R_hasDeposit R.2.2.1, R_hasGirl R.2.2.1, R.kg0, R.kg1, R.kob, R.2.2.1.ob_, Option.bind_some, bI_0]
          rw [if_neg (fun z => z c1), if_neg (fun z => z c2)]
          simp only [K_within, K_isHanger, K_isKind, K_isSpot, K_isSheet, R_hasDeposit R.2.2.1, R_hasGirl R.2.2.1, R.kg0, R.kg1, R.kob, R.2.2.1.ob_, Option.bind_some, bI_0, kd]
        · have md := M_muchIn M G.1 (v := a2) (p := 15 + 6 * d) (x := (11 + (6 * nI d)) + 4) (by omega) ((n11 (d := d) (e := 4) rfl rfl).trans (by congr 1; omega))
          rw [hm] at md
          unfold F_M_threadbare F_M_threadbare_0 F_M_threadbare_41
          simp only [M_in, M_isHanger, M_isPlace, M_isDeposit M, M_isGirl M, M.ob_, M.gr0, Option.bind_some, bI_0]
          rw [if_neg (fun z => z c1), if_neg (fun z => z c2)]
          simp only [M_in, M_isHanger, M_isPlace, M_isDeposit M, M_isGirl M, M.ob_, M.gr0, Option.bind_some, bI_0, md]
    · refine SP_fd R G (i := 0) (r1 := (-1000001) - 0) (r2 := (-1000001)) ?_ (fun M => ?_) (by decide)
      · unfold F_K_threadbare F_K_threadbare_0 F_K_threadbare_21
        simp only [K_within, K_isHanger, K_isKind, K_isSpot, K_isSheet, R_hasDeposit R.2.2.1, R_hasGirl R.2.2.1, R.kg0, R.kg1, R.kob, R.2.2.1.ob_, Option.bind_some, bI_0]
        rw [if_neg (fun z => z c1), if_pos c2]
        simp only [K_within, K_isHanger, K_isKind, K_isSpot, K_isSheet, R_hasDeposit R.2.2.1, R_hasGirl R.2.2.1, R.kg0, R.kg1, R.kob, R.2.2.1.ob_, Option.bind_some, bI_0, K_finding R (i := 0) (x := 0) (by omega) rfl]
      · unfold F_M_threadbare F_M_threadbare_0 F_M_threadbare_35 F_M_threadbare_41
        simp only [M_in, M_isHanger, M_isPlace, M_isDeposit M, M_isGirl M, M.ob_, M.gr0, Option.bind_some, bI_0]
        rw [if_neg (fun z => z c1), if_pos c2]
        simp only [M_in, M_isHanger, M_isPlace, M_isDeposit M, M_isGirl M, M.ob_, M.gr0, Option.bind_some, bI_0, M_finds M (i := 0) (v := (-1000001)) (by omega) (by decide)]
  · refine SP_fd R G (i := 0) (r1 := (-1000001) - 0) (r2 := (-1000001)) ?_ (fun M => ?_) (by decide)
    · unfold F_K_threadbare F_K_threadbare_0 F_K_threadbare_21
      simp only [K_within, K_isHanger, K_isKind, K_isSpot, K_isSheet, R_hasDeposit R.2.2.1, R_hasGirl R.2.2.1, R.kg0, R.kg1, R.kob, R.2.2.1.ob_, Option.bind_some, bI_0]
      rw [if_pos c1]
      simp only [K_within, K_isHanger, K_isKind, K_isSpot, K_isSheet, R_hasDeposit R.2.2.1, R_hasGirl R.2.2.1, R.kg0, R.kg1, R.kob, R.2.2.1.ob_, Option.bind_some, bI_0, K_finding R (i := 0) (x := 0) (by omega) rfl]
    · unfold F_M_threadbare F_M_threadbare_0 F_M_threadbare_35 F_M_threadbare_41
      simp only [M_in, M_isHanger, M_isPlace, M_isDeposit M, M_isGirl M, M.ob_, M.gr0, Option.bind_some, bI_0]
      rw [if_pos c1]
      simp only [M_in, M_isHanger, M_isPlace, M_isDeposit M, M_isGirl M, M.ob_, M.gr0, Option.bind_some, bI_0, M_finds M (i := 0) (v := (-1000001)) (by omega) (by decide)]
theorem st17 : St17 Rel := by
  intro a1 w ⟨h, s, g2, g3, q, R, G⟩
  by_cases c2 : 0 ≤ a1 ∧ a1 ≤ 99999
  · have hg : ∀ (w : A_W) (f : Nat → Int32), RC w 13 f → F_R_gauge 13 2 0 w = some (f (1), w) := by
      intro w f hR
      unfold F_R_gauge F_R_gauge_0
      rw [if_neg (by decide), if_neg (by decide)]
      simp only [hR.gi1, Option.bind_some]
    have kd := K_fewestDays R G.1 (v := a1) hg
    cases hm : (muN (1) a1 201 0 (h 0)).1 with
    | some j =>
      refine SP_tr R G (t := (muN (1) a1 201 0 (h 0)).2) (r1 := nI j) (r2 := nI j) ?_ (fun M => ?_) rfl
      · rw [hm] at kd
        unfold F_K_earns F_K_earns_0 F_K_earns_25
        simp only [K_within, K_isHanger, K_isKind, K_isSpot, K_isSheet, R_hasDeposit R.2.2.1, R_hasGirl R.2.2.1, R.kg0, R.kg1, R.kob, R.2.2.1.ob_, Option.bind_some, bI_0]
        rw [if_neg (fun z => z c2)]
        simp only [K_within, K_isHanger, K_isKind, K_isSpot, K_isSheet, R_hasDeposit R.2.2.1, R_hasGirl R.2.2.1, R.kg0, R.kg1, R.kob, R.2.2.1.ob_, Option.bind_some, bI_0, kd]
      · have md := M_muchIn M G.1 (v := a1) (p := 1) (x := 1) (by omega) rfl
        rw [hm] at md
        unfold F_M_earns F_M_earns_0 F_M_earns_25
        simp only [M_in, M_isHanger, M_isPlace, M_isDeposit M, M_isGirl M, M.ob_, M.gr0, Option.bind_some, bI_0]
        rw [if_neg (fun z => z c2)]
        simp only [M_in, M_isHanger, M_isPlace, M_isDeposit M, M_isGirl M, M.ob_, M.gr0, Option.bind_some, bI_0, md]
    | none =>
      refine SP_trf R G (i := 3) (t := (muN (1) a1 201 0 (h 0)).2) (r1 := (-1000001) - 3) (r2 := (-1000004)) ?_ (fun M => ?_) (by decide)
      · rw [hm] at kd
        unfold F_K_earns F_K_earns_0 F_K_earns_25
        simp only [K_within, K_isHanger, K_isKind, K_isSpot, K_isSheet, R_hasDeposit R.2.2.1, R_hasGirl R.2.2.1, R.kg0, R.kg1, R.kob, R.2.2.1.ob_, Option.bind_some, bI_0]
        rw [if_neg (fun z => z c2)]
        simp only [K_within, K_isHanger, K_isKind, K_isSpot, K_isSheet, R_hasDeposit R.2.2.1, R_hasGirl R.2.2.1, R.kg0, R.kg1, R.kob, R.2.2.1.ob_, Option.bind_some, bI_0, kd]
      · have md := M_muchIn M G.1 (v := a1) (p := 1) (x := 1) (by omega) rfl
        rw [hm] at md
        unfold F_M_earns F_M_earns_0 F_M_earns_25
        simp only [M_in, M_isHanger, M_isPlace, M_isDeposit M, M_isGirl M, M.ob_, M.gr0, Option.bind_some, bI_0]
        rw [if_neg (fun z => z c2)]
        simp only [M_in, M_isHanger, M_isPlace, M_isDeposit M, M_isGirl M, M.ob_, M.gr0, Option.bind_some, bI_0, md]
  · refine SP_fd R G (i := 0) (r1 := (-1000001) - 0) (r2 := (-1000001)) ?_ (fun M => ?_) (by decide)
    · unfold F_K_earns F_K_earns_0 F_K_earns_25
      simp only [K_within, K_isHanger, K_isKind, K_isSpot, K_isSheet, R_hasDeposit R.2.2.1, R_hasGirl R.2.2.1, R.kg0, R.kg1, R.kob, R.2.2.1.ob_, Option.bind_some, bI_0]
      rw [if_pos c2]
      simp only [K_within, K_isHanger, K_isKind, K_isSpot, K_isSheet, R_hasDeposit R.2.2.1, R_hasGirl R.2.2.1, R.kg0, R.kg1, R.kob, R.2.2.1.ob_, Option.bind_some, bI_0, K_finding R (i := 0) (x := 0) (by omega) rfl]
    · unfold F_M_earns F_M_earns_0 F_M_earns_25
      simp only [M_in, M_isHanger, M_isPlace, M_isDeposit M, M_isGirl M, M.ob_, M.gr0, Option.bind_some, bI_0]
      rw [if_pos c2]
      simp only [M_in, M_isHanger, M_isPlace, M_isDeposit M, M_isGirl M, M.ob_, M.gr0, Option.bind_some, bI_0, M_finds M (i := 0) (v := (-1000001)) (by omega) (by decide)]
/-! the best of some -/
def beN (V : Nat → Nat → Int32) (n : Nat) : Nat → Nat → Nat → Int32 → Nat
  | 0, _, b, _ => b
  | k + 1, i, b, m => if sms (GON n (V i)) 2 ≤ m then beN V n k (i + 1) b m else beN V n k (i + 1) i (sms (GON n (V i)) 2)
section BES
variable {h : Nat → Nat → Int32} {s : Nat → Int32} {g3 q : Nat → Int32}
theorem K_best_loop {x1 x2 : Int32} {N n : Nat} (hN : N ≤ 100) (hn : n < 1000) {V : Nat → Nat → Int32} (hV : ∀ i, i < N → Wf (V i)) (hf : Wf (h 0)) (hv : ∀ (i : Nat) (w : A_W), i < N → RC w 13 (h 0) → F_R_vary 13 x1 x2 (nI i) w = some (rW w 13 (V i))) : ∀ (m k i b : Nat) (w : A_W) (g2 : Nat → Int32) (mo x : Int32), RelX w h s g2 g3 q → x = nI i → i + k = N → k < m → ∃ t, F_K_bestFor_23 m 0 x1 x2 (nI n) (nI N) (nI b) mo x w = some (nI (beN V n k i b mo), rW w 13 t) := by
  intro m
  induction m with
  | zero => intro k i b w g2 mo x _ _ _ hk; exact absurd hk (by omega)
  | succ m ih =>
    intro k i b w g2 mo x R hx hk hm
    rw [F_K_bestFor_23, hx]
    cases k with
    | zero =>
      rw [if_pos (nI_le (by omega) (by omega))]
      exact ⟨g2, by rw [R.2.2.2.1.rW_id]; rfl⟩
    | succ k =>
      rw [if_neg (fun z => by rw [nI_leI (by omega) (by omega)] at z; omega)]
      have R1 := R.trial (h 0)
      have R2 := R.trial (V i)
      have R3 := R.trial (GON n (V i))
      have hi : i < N := by omega
      have hv1 := hv i _ hi R1.2.2.2.1
      rw [rW_rW] at hv1
      have hp := R_passDays R2.2.2.2.1 (hV i hi) (n := n) (x := nI n) (by omega) rfl
      rw [rW_rW] at hp
      simp only [R.kg1, R.kg0, Option.bind_some, R.2.2.2.1.ob_, R_become R.2.2.2.1 R.2.2.1 (by omega), R1.kg1, R1.2.2.2.1.ob_, hv1, R2.kg1, R2.2.2.2.1.ob_, hp, R3.kg1, R3.2.2.2.1.ob_, R_metTogether R3.2.2.2.1 (GON_Wf n _ (hV i hi))]
      unfold F_K_bestFor_84
      rw [beN]
      split
      · obtain ⟨t, ht⟩ := ih k (i + 1) b _ _ mo (nI i + 1) R3 (nI_1 i) (by omega) (by omega)
        exact ⟨t, by rw [ht, rW_rW]⟩
      · obtain ⟨t, ht⟩ := ih k (i + 1) i _ _ (sms (GON n (V i)) 2) (nI i + 1) R3 (nI_1 i) (by omega) (by omega)
        exact ⟨t, by rw [ht, rW_rW]⟩
theorem M_metBehind {w : A_W} (hM : MM w h s) {f : Nat → Int32} (hf : Wf f) (ht : Tl (h 0) f) {n : Nat} (hn : n < 1000) {x : Int32} (hx : x = nI n) : F_M_metBehind 49 x (mW (mW w 2 (cpR (h 0) (h 2))) 0 f) = some (sms (GON n f) 2, mW w 2 (cpR (h 0) (h 2))) := by
  have h1 := hM.set (a := 2) (by omega) (cpR (h 0) (h 2))
  have h2 := h1.set (a := 0) (by omega) f
  have h3 := h1.set (a := 0) (by omega) (GON n f)
  have mg := M_goesFor h2 (by rw [hset_self]; exact hf) (n := n) (x := x) (by omega) hx
  rw [hset_self, mW_mW] at mg
  have ms := M_sums h3 (by rw [hset_self]; exact GON_Wf n _ hf) (e := 2) (x := 2) (by omega) rfl
  rw [hset_self] at ms
  unfold F_M_metBehind F_M_metBehind_0
  simp only [h2.ob_, Option.bind_some, mg, h3.ob_, ms, M_back hM (ht.tr (GON_Tl n _ hf))]
theorem M_best_loop {w : A_W} (hM : MM w h s) {p N n : Nat} (hp : p < 87) (hN : N ≤ 100) (hn : n < 1000) {V : Nat → Nat → Int32} {fi : Int32} (hV : ∀ i, i < N → Wf (V i) ∧ V i = upd (h 0) p (fi + nI i)) : ∀ (m k i b : Nat) (mo x : Int32), x = nI i → i + k = N → k < m → F_M_mostBy_13 m 49 (nI p) fi (nI N) (nI n) (nI b) mo x (mW w 2 (cpR (h 0) (h 2))) = some (nI (beN V n k i b mo), mW w 2 (cpR (h 0) (h 2))) := by
  intro m
  induction m with
  | zero => intro k i b mo x _ _ hk; exact absurd hk (by omega)
  | succ m ih =>
    intro k i b mo x hx hk hm
    have h1 := hM.set (a := 2) (by omega) (cpR (h 0) (h 2))
    rw [F_M_mostBy_13, hx]
    cases k with
    | zero =>
      rw [if_pos (nI_le (by omega) (by omega))]
      rfl
    | succ k =>
      rw [if_neg (fun z => by rw [nI_leI (by omega) (by omega)] at z; omega)]
      obtain ⟨hw, he⟩ := hV i (by omega)
      have e0 : (hset h 2 (cpR (h 0) (h 2))) 0 = h 0 := hset_ne _ _ (by omega)
      have h2 := h1.set (a := 0) (by omega) (V i)
      have mb := M_metBehind hM hw (by rw [he]; exact (Tl.rf _).up hp _) hn (x := nI n) rfl
      simp only [h1.gr0, Option.bind_some, h1.wr0 hp rfl, e0, ← he, h2.ob_, mb]
      unfold F_M_mostBy_51 F_M_mostBy_67
      rw [beN]
      by_cases c : sms (GON n (V i)) 2 ≤ mo
      · rw [if_pos c, if_pos c, if_pos c]
        exact ih k (i + 1) b mo (nI i + 1) (nI_1 i) (by omega) (by omega)
      · rw [if_neg c, if_neg c, if_neg c]
        exact ih k (i + 1) i _ (nI i + 1) (nI_1 i) (by omega) (by omega)
theorem M_mostBy {w : A_W} (hM : MM w h s) {p N n : Nat} (hp : p < 87) (hN : N ≤ 100) (hn : n < 1000) {V : Nat → Nat → Int32} {fi : Int32} (hV : ∀ i, i < N → Wf (V i) ∧ V i = upd (h 0) p (fi + nI i)) {x y z : Int32} (hx : x = nI p) (hy : y = nI N) (hz : z = nI n) : F_M_mostBy 49 x fi y z w = some (nI (beN V n N 0 0 (-1)), mW w 2 (cpR (h 0) (h 2))) := by
  subst hx; subst hy; subst hz
  unfold F_M_mostBy F_M_mostBy_0
  simp only [hM.ob_, Option.bind_some, M_thinks hM]
  exact M_best_loop hM hp hN hn hV FU N 0 0 (-1) 0 rfl (by omega) (by unfold FU; omega)
end BES
theorem st18 : St18 Rel := by
  intro a1 a2 w ⟨h, s, g2, g3, q, R, G⟩
  by_cases c1 : 0 ≤ a1 ∧ a1 ≤ h 0 3 - 1
  · by_cases c2 : 0 ≤ a2 ∧ a2 ≤ 40
    · have hc := c1
      rw [(Wf_dep G.1).2] at hc
      obtain ⟨d, hd, rfl⟩ := (in_iff (by have := Wf_dep G.1; omega)).mp hc
      have hd8 : d < 8 := by have := Wf_dep G.1; omega
      obtain ⟨n, -, hn, rfl⟩ := btw (m := 0) (n := 40) rfl rfl (by omega) (by omega) c2
      have hV : ∀ i, i < 16 → Wf (upd (h 0) (12 + 6 * d) (nI i)) := by
        intro i hi
        refine Wf_upd G.1 (by omega) (by omega) (fun _ => ?_) (fun _ _ => by omega)
        have hb := hiB_it d hd8 1 (by omega)
        rw [show 11 + 6 * d + 1 = 12 + 6 * d by omega] at hb
        rw [hb, nI_toInt (by omega)]
        show 0 ≤ (i : Int) ∧ (i : Int) ≤ 15
        omega
      have hv : ∀ (i : Nat) (w : A_W), i < 16 → RC w 13 (h 0) → F_R_vary 13 0 (nI d) (nI i) w = some (rW w 13 (upd (h 0) (12 + 6 * d) (nI i))) := by
        intro i w hi hR
        unfold F_R_vary F_R_vary_0 F_R_vary_67
        rw [if_pos (by decide)]
        simp only [hR.b_gr7, Option.bind_some, hR.b_wr_hanger hd8 rfl]
      obtain ⟨t, ht⟩ := K_best_loop (N := 16) (n := n) (by omega) (by omega) (V := fun i => upd (h 0) (12 + 6 * d) (nI i)) hV G.1 hv FU 16 0 0 w g2 (-1) 0 R rfl (by omega) (by unfold FU; omega)
      refine SP_tr R G (t := t) (r1 := nI (beN (fun i => upd (h 0) (12 + 6 * d) (nI i)) n 16 0 0 (-1))) (r2 := nI (beN (fun i => upd (h 0) (12 + 6 * d) (nI i)) n 16 0 0 (-1))) ?_ (fun M => ?_) rfl
      · unfold F_K_hangFor F_K_hangFor_0 F_K_bestFor F_K_bestFor_0 F_K_bestFor_12
        simp only [K_within, K_isHanger, K_isKind, K_isSpot, K_isSheet, R_hasDeposit R.2.2.1, R_hasGirl R.2.2.1, R.kg0, R.kg1, R.kob, R.2.2.1.ob_, Option.bind_some, bI_0]
        rw [if_neg (fun z => z c1), if_neg (fun z => z c2), if_neg (by decide)]
        have ht2 : F_K_bestFor_23 FU 0 0 (nI d) (nI n) 16 0 (-1) 0 w = _ := ht
        simp only [K_within, K_isHanger, K_isKind, K_isSpot, K_isSheet, R_hasDeposit R.2.2.1, R_hasGirl R.2.2.1, R.kg0, R.kg1, R.kob, R.2.2.1.ob_, Option.bind_some, bI_0, ht2]
      · have mb := M_mostBy M (p := 12 + 6 * d) (N := 16) (n := n) (by omega) (by omega) (by omega) (V := fun i => upd (h 0) (12 + 6 * d) (nI i)) (fi := 0) (fun i hi => ⟨hV i hi, by rw [Int32.zero_add]⟩) (x := (11 + (6 * nI d)) + 1) (y := 16) (z := nI n) ((n11 (d := d) (e := 1) rfl rfl).trans (by congr 1; omega)) rfl rfl
        unfold F_M_hangFor F_M_hangFor_0 F_M_hangFor_44
        simp only [M_in, M_isHanger, M_isPlace, M_isDeposit M, M_isGirl M, M.ob_, M.gr0, Option.bind_some, bI_0]
        rw [if_neg (fun z => z c1), if_neg (fun z => z c2)]
        simp only [M_in, M_isHanger, M_isPlace, M_isDeposit M, M_isGirl M, M.ob_, M.gr0, Option.bind_some, bI_0, mb]
    · refine SP_fd R G (i := 0) (r1 := (-1000001) - 0) (r2 := (-1000001)) ?_ (fun M => ?_) (by decide)
      · unfold F_K_hangFor F_K_hangFor_0 F_K_hangFor_21
        simp only [K_within, K_isHanger, K_isKind, K_isSpot, K_isSheet, R_hasDeposit R.2.2.1, R_hasGirl R.2.2.1, R.kg0, R.kg1, R.kob, R.2.2.1.ob_, Option.bind_some, bI_0]
        rw [if_neg (fun z => z c1), if_pos c2]
        simp only [K_within, K_isHanger, K_isKind, K_isSpot, K_isSheet, R_hasDeposit R.2.2.1, R_hasGirl R.2.2.1, R.kg0, R.kg1, R.kob, R.2.2.1.ob_, Option.bind_some, bI_0, K_finding R (i := 0) (x := 0) (by omega) rfl]
      · unfold F_M_hangFor F_M_hangFor_0 F_M_hangFor_38 F_M_hangFor_44
        simp only [M_in, M_isHanger, M_isPlace, M_isDeposit M, M_isGirl M, M.ob_, M.gr0, Option.bind_some, bI_0]
        rw [if_neg (fun z => z c1), if_pos c2]
        simp only [M_in, M_isHanger, M_isPlace, M_isDeposit M, M_isGirl M, M.ob_, M.gr0, Option.bind_some, bI_0, M_finds M (i := 0) (v := (-1000001)) (by omega) (by decide)]
  · refine SP_fd R G (i := 0) (r1 := (-1000001) - 0) (r2 := (-1000001)) ?_ (fun M => ?_) (by decide)
    · unfold F_K_hangFor F_K_hangFor_0 F_K_hangFor_21
      simp only [K_within, K_isHanger, K_isKind, K_isSpot, K_isSheet, R_hasDeposit R.2.2.1, R_hasGirl R.2.2.1, R.kg0, R.kg1, R.kob, R.2.2.1.ob_, Option.bind_some, bI_0]
      rw [if_pos c1]
      simp only [K_within, K_isHanger, K_isKind, K_isSpot, K_isSheet, R_hasDeposit R.2.2.1, R_hasGirl R.2.2.1, R.kg0, R.kg1, R.kob, R.2.2.1.ob_, Option.bind_some, bI_0, K_finding R (i := 0) (x := 0) (by omega) rfl]
    · unfold F_M_hangFor F_M_hangFor_0 F_M_hangFor_38 F_M_hangFor_44
      simp only [M_in, M_isHanger, M_isPlace, M_isDeposit M, M_isGirl M, M.ob_, M.gr0, Option.bind_some, bI_0]
      rw [if_pos c1]
      simp only [M_in, M_isHanger, M_isPlace, M_isDeposit M, M_isGirl M, M.ob_, M.gr0, Option.bind_some, bI_0, M_finds M (i := 0) (v := (-1000001)) (by omega) (by decide)]
/-- a place of the list by its girl and another hanger -/
theorem li_n {f : Nat → Int32} (h : Wf f) {d : Nat} (hd : d < 6) : ∃ l : Nat, l ≤ 5 ∧ f (5 + d) / 100 = nI l := by
  obtain ⟨n, e, hn⟩ := Wf_nat h (i := 5 + d) (by omega) (by omega) (hiB_li d hd)
  exact ⟨n / 100, by omega, by rw [e]; exact dv_n (y := 100) (m := 100) rfl rfl (by omega) (by omega) (by omega)⟩
theorem st19 : St19 Rel := by
  intro a1 a2 w ⟨h, s, g2, g3, q, R, G⟩
  by_cases c1 : 0 ≤ a1 ∧ a1 ≤ 5
  · by_cases c2 : 0 ≤ a2 ∧ a2 ≤ 40
    · obtain ⟨d, -, hd5, rfl⟩ := btw (m := 0) (n := 5) rfl rfl (by omega) (by omega) c1
      obtain ⟨l, hl, el⟩ := li_n G.1 (d := d) (by omega)
      obtain ⟨n, -, hn, rfl⟩ := btw (m := 0) (n := 40) rfl rfl (by omega) (by omega) c2
      have hV : ∀ i, i < 16 → Wf (upd (h 0) (5 + d) (nI (100 * l + i))) := by
        intro i hi
        refine Wf_upd G.1 (by omega) (by omega) (fun _ => ?_) (fun _ _ => ?_)
        · rw [hiB_li d (by omega), nI_toInt (by omega)]; omega
        · rw [nI_toInt (by omega)]; omega
      have hv : ∀ (i : Nat) (w : A_W), i < 16 → RC w 13 (h 0) → F_R_vary 13 1 (nI d) (nI i) w = some (rW w 13 (upd (h 0) (5 + d) (nI (100 * l + i)))) := by
        intro i w hi hR
        unfold F_R_vary F_R_vary_0 F_R_vary_67
        rw [if_neg (by decide), if_pos (by decide)]
        simp only [hR.b_gr5, Option.bind_some, hR.b_rd_list (i := d) (by omega) rfl, el, K_standOf, hR.b_wr_list (i := d) (by omega) rfl]
        rw [show (100 : Int32) * nI l = nI (100 * l) from pk_mul 100 l, nI_add]
      obtain ⟨t, ht⟩ := K_best_loop (N := 16) (n := n) (by omega) (by omega) (V := fun i => upd (h 0) (5 + d) (nI (100 * l + i))) hV G.1 hv FU 16 0 0 w g2 (-1) 0 R rfl (by omega) (by unfold FU; omega)
      refine SP_tr R G (t := t) (r1 := nI (beN (fun i => upd (h 0) (5 + d) (nI (100 * l + i))) n 16 0 0 (-1))) (r2 := nI (beN (fun i => upd (h 0) (5 + d) (nI (100 * l + i))) n 16 0 0 (-1))) ?_ (fun M => ?_) rfl
      · unfold F_K_standFor F_K_standFor_0 F_K_bestFor F_K_bestFor_0 F_K_bestFor_12
        simp only [K_within, K_isHanger, K_isKind, K_isSpot, K_isSheet, R_hasDeposit R.2.2.1, R_hasGirl R.2.2.1, R.kg0, R.kg1, R.kob, R.2.2.1.ob_, Option.bind_some, bI_0]
        rw [if_neg (fun z => z c1), if_neg (fun z => z c2), if_neg (by decide)]
        have ht2 : F_K_bestFor_23 FU 0 1 (nI d) (nI n) 16 0 (-1) 0 w = _ := ht
        simp only [K_within, K_isHanger, K_isKind, K_isSpot, K_isSheet, R_hasDeposit R.2.2.1, R_hasGirl R.2.2.1, R.kg0, R.kg1, R.kob, R.2.2.1.ob_, Option.bind_some, bI_0, ht2]
      · have mb := M_mostBy M (p := 5 + d) (N := 16) (n := n) (by omega) (by omega) (by omega) (V := fun i => upd (h 0) (5 + d) (nI (100 * l + i))) (fi := (h 0 (5 + d) / 100) * 100) (fun i hi => ⟨hV i hi, by rw [el, show nI l * (100 : Int32) = nI (l * 100) from pk_mul l 100, nI_add, Nat.mul_comm]⟩) (x := 5 + nI d) (y := 16) (z := nI n) (n5 rfl) rfl rfl
        unfold F_M_standFor F_M_standFor_0 F_M_standFor_50
        simp only [M_in, M_isHanger, M_isPlace, M_isDeposit M, M_isGirl M, M.ob_, M.gr0, Option.bind_some, bI_0]
        rw [if_neg (fun z => z c1), if_neg (fun z => z c2)]
        simp only [M_in, M_isHanger, M_isPlace, M_isDeposit M, M_isGirl M, M.ob_, M.gr0, Option.bind_some, bI_0, M.rd0 (i := 5 + d) (by omega) (n5 rfl), mb]
    · refine SP_fd R G (i := 0) (r1 := (-1000001) - 0) (r2 := (-1000001)) ?_ (fun M => ?_) (by decide)
      · unfold F_K_standFor F_K_standFor_0 F_K_standFor_19
        simp only [K_within, K_isHanger, K_isKind, K_isSpot, K_isSheet, R_hasDeposit R.2.2.1, R_hasGirl R.2.2.1, R.kg0, R.kg1, R.kob, R.2.2.1.ob_, Option.bind_some, bI_0]
        rw [if_neg (fun z => z c1), if_pos c2]
        simp only [K_within, K_isHanger, K_isKind, K_isSpot, K_isSheet, R_hasDeposit R.2.2.1, R_hasGirl R.2.2.1, R.kg0, R.kg1, R.kob, R.2.2.1.ob_, Option.bind_some, bI_0, K_finding R (i := 0) (x := 0) (by omega) rfl]
      · unfold F_M_standFor F_M_standFor_0 F_M_standFor_44 F_M_standFor_50
        simp only [M_in, M_isHanger, M_isPlace, M_isDeposit M, M_isGirl M, M.ob_, M.gr0, Option.bind_some, bI_0]
        rw [if_neg (fun z => z c1), if_pos c2]
        simp only [M_in, M_isHanger, M_isPlace, M_isDeposit M, M_isGirl M, M.ob_, M.gr0, Option.bind_some, bI_0, M_finds M (i := 0) (v := (-1000001)) (by omega) (by decide)]
  · refine SP_fd R G (i := 0) (r1 := (-1000001) - 0) (r2 := (-1000001)) ?_ (fun M => ?_) (by decide)
    · unfold F_K_standFor F_K_standFor_0 F_K_standFor_19
      simp only [K_within, K_isHanger, K_isKind, K_isSpot, K_isSheet, R_hasDeposit R.2.2.1, R_hasGirl R.2.2.1, R.kg0, R.kg1, R.kob, R.2.2.1.ob_, Option.bind_some, bI_0]
      rw [if_pos c1]
      simp only [K_within, K_isHanger, K_isKind, K_isSpot, K_isSheet, R_hasDeposit R.2.2.1, R_hasGirl R.2.2.1, R.kg0, R.kg1, R.kob, R.2.2.1.ob_, Option.bind_some, bI_0, K_finding R (i := 0) (x := 0) (by omega) rfl]
    · unfold F_M_standFor F_M_standFor_0 F_M_standFor_44 F_M_standFor_50
      simp only [M_in, M_isHanger, M_isPlace, M_isDeposit M, M_isGirl M, M.ob_, M.gr0, Option.bind_some, bI_0]
      rw [if_pos c1]
      simp only [M_in, M_isHanger, M_isPlace, M_isDeposit M, M_isGirl M, M.ob_, M.gr0, Option.bind_some, bI_0, M_finds M (i := 0) (v := (-1000001)) (by omega) (by decide)]
theorem st20 : St20 Rel := by
  intro a1 a2 w ⟨h, s, g2, g3, q, R, G⟩
  by_cases c1 : 0 ≤ a1 ∧ a1 ≤ h 0 3 - 1
  · by_cases c2 : 0 ≤ a2 ∧ a2 ≤ 40
    · have hc := c1
      rw [(Wf_dep G.1).2] at hc
      obtain ⟨d, hd, rfl⟩ := (in_iff (by have := Wf_dep G.1; omega)).mp hc
      have hd8 : d < 8 := by have := Wf_dep G.1; omega
      obtain ⟨n, -, hn, rfl⟩ := btw (m := 0) (n := 40) rfl rfl (by omega) (by omega) c2
      have hV : ∀ i, i < 7 → Wf (upd (h 0) (11 + 6 * d) (nI i)) := by
        intro i hi
        refine Wf_upd G.1 (by omega) (by omega) (fun _ => ?_) (fun _ _ => by omega)
        have hb := hiB_it d hd8 0 (by omega)
        rw [Nat.add_zero] at hb
        rw [hb, nI_toInt (by omega)]
        show 0 ≤ (i : Int) ∧ (i : Int) ≤ 6
        omega
      have hv : ∀ (i : Nat) (w : A_W), i < 7 → RC w 13 (h 0) → F_R_vary 13 2 (nI d) (nI i) w = some (rW w 13 (upd (h 0) (11 + 6 * d) (nI i))) := by
        intro i w hi hR
        unfold F_R_vary F_R_vary_0 F_R_vary_67
        rw [if_neg (by decide), if_neg (by decide)]
        simp only [hR.b_gr6, Option.bind_some, hR.b_wr_kind hd8 rfl]
      obtain ⟨t, ht⟩ := K_best_loop (N := 7) (n := n) (by omega) (by omega) (V := fun i => upd (h 0) (11 + 6 * d) (nI i)) hV G.1 hv FU 7 0 0 w g2 (-1) 0 R rfl (by omega) (by unfold FU; omega)
      refine SP_tr R G (t := t) (r1 := nI (beN (fun i => upd (h 0) (11 + 6 * d) (nI i)) n 7 0 0 (-1))) (r2 := nI (beN (fun i => upd (h 0) (11 + 6 * d) (nI i)) n 7 0 0 (-1))) ?_ (fun M => ?_) rfl
      · unfold F_K_kindFor F_K_kindFor_0 F_K_bestFor F_K_bestFor_0 F_K_bestFor_12
        simp only [K_within, K_isHanger, K_isKind, K_isSpot, K_isSheet, R_hasDeposit R.2.2.1, R_hasGirl R.2.2.1, R.kg0, R.kg1, R.kob, R.2.2.1.ob_, Option.bind_some, bI_0]
        rw [if_neg (fun z => z c1), if_neg (fun z => z c2), if_pos (by decide)]
        have ht2 : F_K_bestFor_23 FU 0 2 (nI d) (nI n) 7 0 (-1) 0 w = _ := ht
        simp only [K_within, K_isHanger, K_isKind, K_isSpot, K_isSheet, R_hasDeposit R.2.2.1, R_hasGirl R.2.2.1, R.kg0, R.kg1, R.kob, R.2.2.1.ob_, Option.bind_some, bI_0, ht2]
      · have mb := M_mostBy M (p := 11 + 6 * d) (N := 7) (n := n) (by omega) (by omega) (by omega) (V := fun i => upd (h 0) (11 + 6 * d) (nI i)) (fi := 0) (fun i hi => ⟨hV i hi, by rw [Int32.zero_add]⟩) (x := 11 + (6 * nI d)) (y := 7) (z := nI n) ((show 11 + 6 * nI d = nI (11 + 6 * d) by rw [show (6 : Int32) * nI d = nI (6 * d) from pk_mul 6 d]; exact nI_add 11 (6 * d))) rfl rfl
        unfold F_M_kindFor F_M_kindFor_0 F_M_kindFor_42
        simp only [M_in, M_isHanger, M_isPlace, M_isDeposit M, M_isGirl M, M.ob_, M.gr0, Option.bind_some, bI_0]
        rw [if_neg (fun z => z c1), if_neg (fun z => z c2)]
        simp only [M_in, M_isHanger, M_isPlace, M_isDeposit M, M_isGirl M, M.ob_, M.gr0, Option.bind_some, bI_0, mb]
    · refine SP_fd R G (i := 0) (r1 := (-1000001) - 0) (r2 := (-1000001)) ?_ (fun M => ?_) (by decide)
      · unfold F_K_kindFor F_K_kindFor_0 F_K_kindFor_21
        simp only [K_within, K_isHanger, K_isKind, K_isSpot, K_isSheet, R_hasDeposit R.2.2.1, R_hasGirl R.2.2.1, R.kg0, R.kg1, R.kob, R.2.2.1.ob_, Option.bind_some, bI_0]
        rw [if_neg (fun z => z c1), if_pos c2]
        simp only [K_within, K_isHanger, K_isKind, K_isSpot, K_isSheet, R_hasDeposit R.2.2.1, R_hasGirl R.2.2.1, R.kg0, R.kg1, R.kob, R.2.2.1.ob_, Option.bind_some, bI_0, K_finding R (i := 0) (x := 0) (by omega) rfl]
      · unfold F_M_kindFor F_M_kindFor_0 F_M_kindFor_36 F_M_kindFor_42
        simp only [M_in, M_isHanger, M_isPlace, M_isDeposit M, M_isGirl M, M.ob_, M.gr0, Option.bind_some, bI_0]
        rw [if_neg (fun z => z c1), if_pos c2]
        simp only [M_in, M_isHanger, M_isPlace, M_isDeposit M, M_isGirl M, M.ob_, M.gr0, Option.bind_some, bI_0, M_finds M (i := 0) (v := (-1000001)) (by omega) (by decide)]
  · refine SP_fd R G (i := 0) (r1 := (-1000001) - 0) (r2 := (-1000001)) ?_ (fun M => ?_) (by decide)
    · unfold F_K_kindFor F_K_kindFor_0 F_K_kindFor_21
      simp only [K_within, K_isHanger, K_isKind, K_isSpot, K_isSheet, R_hasDeposit R.2.2.1, R_hasGirl R.2.2.1, R.kg0, R.kg1, R.kob, R.2.2.1.ob_, Option.bind_some, bI_0]
      rw [if_pos c1]
      simp only [K_within, K_isHanger, K_isKind, K_isSpot, K_isSheet, R_hasDeposit R.2.2.1, R_hasGirl R.2.2.1, R.kg0, R.kg1, R.kob, R.2.2.1.ob_, Option.bind_some, bI_0, K_finding R (i := 0) (x := 0) (by omega) rfl]
    · unfold F_M_kindFor F_M_kindFor_0 F_M_kindFor_36 F_M_kindFor_42
      simp only [M_in, M_isHanger, M_isPlace, M_isDeposit M, M_isGirl M, M.ob_, M.gr0, Option.bind_some, bI_0]
      rw [if_pos c1]
      simp only [M_in, M_isHanger, M_isPlace, M_isDeposit M, M_isGirl M, M.ob_, M.gr0, Option.bind_some, bI_0, M_finds M (i := 0) (v := (-1000001)) (by omega) (by decide)]
