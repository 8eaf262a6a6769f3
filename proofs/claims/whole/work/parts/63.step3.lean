/-! sums, sets, the lightest -/
def gnN (f : Nat → Int32) : Nat → Nat → Int32 → Int32
  | 0, _, a => a
  | k + 1, d, a => gnN f k (d + 1) (if f (16 + 6 * d) = 0 then a else a ||| (1 <<< (nI d &&& 31)))
def gns (f : Nat → Int32) : Int32 := gnN f (dep f) 0 0
def dkN (f : Nat → Int32) : Nat → Nat → Int32 → Int32
  | 0, _, a => a
  | k + 1, d, a => dkN f k (d + 1) (if lgt f (nI d) = 0 then a ||| (1 <<< (nI d &&& 31)) else a)
def drk (f : Nat → Int32) : Int32 := dkN f 16 0 0
def ltN (f : Nat → Int32) : Nat → Nat → Nat → Nat
  | 0, _, b => b
  | k + 1, d, b => ltN f k (d + 1) (if lgt f (nI d) ≤ lgt f (nI b) then b else d)
def ltH (f : Nat → Int32) : Nat := ltN f 15 1 0
section SUM
variable {w : A_W} {h : Nat → Nat → Int32} {s : Nat → Int32} {t : Nat} {g : Nat → Int32}
theorem M_sums_loop (hM : MM w h s) (hf : Wf (h 0)) {e : Nat} (he : e < 3) : ∀ (n k d : Nat) (a : Int32) (x : Int32), x = nI d → d + k = grl (h 0) → k < n → F_M_sums_4 n 49 (nI e) a x w = some (smN (h 0) e k d a, w) := by
  intro n
  induction n with
  | zero => intro k d a x _ _ hk; exact absurd hk (by omega)
  | succ n ih =>
    intro k d a x hx hk hn
    obtain ⟨h8, h3⟩ := Wf_grl hf
    rw [F_M_sums_4]
    simp only [hM.gr0, Option.bind_some, hM.rd0 (i := 4) (x := 4) (by omega) rfl]
    rw [h3, hx]
    cases k with
    | zero => rw [if_pos (nI_le (by omega) (by omega))]; rfl
    | succ k =>
      rw [if_neg (fun z => by rw [nI_leI (by omega) (by omega)] at z; omega)]
      simp only [hM.ob_, Option.bind_some, M_her hM (d := d) (e := e) (by omega) he rfl rfl]
      rw [ih k (d + 1) _ _ (nI_1 d) (by omega) (by omega)]; rfl
theorem M_sums (hM : MM w h s) (hf : Wf (h 0)) {e : Nat} (he : e < 3) {x : Int32} (hx : x = nI e) : F_M_sums 49 x w = some (sms (h 0) e, w) := by
  subst hx
  have := Wf_grl hf
  exact M_sums_loop hM hf he FU (grl (h 0)) 0 0 0 rfl (by omega) (by unfold FU; omega)
theorem R_met_loop (hR : RC w t g) (hf : Wf g) : ∀ (n k d : Nat) (a : Int32) (x : Int32), x = nI d → d + k = grl g → k < n → F_R_metTogether_4 n t a x w = some (smN g 2 k d a, w) := by
  intro n
  induction n with
  | zero => intro k d a x _ _ hk; exact absurd hk (by omega)
  | succ n ih =>
    intro k d a x hx hk hn
    obtain ⟨h8, h3⟩ := Wf_grl hf
    rw [F_R_metTogether_4]
    simp only [hR.gi4, Option.bind_some]
    rw [h3, hx]
    cases k with
    | zero => rw [if_pos (nI_le (by omega) (by omega))]; rfl
    | succ k =>
      rw [if_neg (fun z => by rw [nI_leI (by omega) (by omega)] at z; omega)]
      simp only [hR.gr14, Option.bind_some, hR.rd_met (i := d) (by omega) rfl]
      rw [ih k (d + 1) _ _ (nI_1 d) (by omega) (by omega), smN, show 59 + 3 * d + 2 = 61 + 3 * d by omega]
theorem R_metTogether (hR : RC w t g) (hf : Wf g) : F_R_metTogether t w = some (sms g 2, w) := by
  have := Wf_grl hf
  exact R_met_loop hR hf FU (grl g) 0 0 0 rfl (by omega) (by unfold FU; omega)
theorem R_dream_loop (hR : RC w t g) (hf : Wf g) : ∀ (n k d : Nat) (a : Int32) (x : Int32), x = nI d → d + k = grl g → k < n → F_R_dreamTogether_4 n t a x w = some (smN g 0 k d a, w) := by
  intro n
  induction n with
  | zero => intro k d a x _ _ hk; exact absurd hk (by omega)
  | succ n ih =>
    intro k d a x hx hk hn
    obtain ⟨h8, h3⟩ := Wf_grl hf
    rw [F_R_dreamTogether_4]
    simp only [hR.gi4, Option.bind_some]
    rw [h3, hx]
    cases k with
    | zero => rw [if_pos (nI_le (by omega) (by omega))]; rfl
    | succ k =>
      rw [if_neg (fun z => by rw [nI_leI (by omega) (by omega)] at z; omega)]
      simp only [hR.gr12, Option.bind_some, hR.rd_dream (i := d) (by omega) rfl]
      rw [ih k (d + 1) _ _ (nI_1 d) (by omega) (by omega)]; rfl
theorem R_dreamTogether (hR : RC w t g) (hf : Wf g) : F_R_dreamTogether t w = some (sms g 0, w) := by
  have := Wf_grl hf
  exact R_dream_loop hR hf FU (grl g) 0 0 0 rfl (by omega) (by unfold FU; omega)
theorem R_out_loop (hR : RC w t g) (hf : Wf g) : ∀ (n k d : Nat) (a : Int32) (x : Int32), x = nI d → d + k = dep g → k < n → F_R_outSet_4 n t a x w = some (gnN g k d a, w) := by
  intro n
  induction n with
  | zero => intro k d a x _ _ hk; exact absurd hk (by omega)
  | succ n ih =>
    intro k d a x hx hk hn
    obtain ⟨h8, h3⟩ := Wf_dep hf
    rw [F_R_outSet_4]
    simp only [hR.gi3, Option.bind_some]
    rw [h3, hx]
    cases k with
    | zero => rw [if_pos (nI_le (by omega) (by omega))]; rfl
    | succ k =>
      rw [if_neg (fun z => by rw [nI_leI (by omega) (by omega)] at z; omega)]
      unfold F_R_outSet_27
      simp only [hR.gr11, Option.bind_some, hR.rd_out (i := d) (by omega) rfl]
      rw [gnN]
      split
      · rw [ih k (d + 1) _ _ (nI_1 d) (by omega) (by omega)]
      · rw [ih k (d + 1) _ _ (nI_1 d) (by omega) (by omega)]
theorem R_outSet (hR : RC w t g) (hf : Wf g) : F_R_outSet t w = some (gns g, w) := by
  have := Wf_dep hf
  exact R_out_loop hR hf FU (dep g) 0 0 0 rfl (by omega) (by unfold FU; omega)
theorem out01 {f : Nat → Int32} (h : Wf f) {d : Nat} (hd : d < 8) : f (16 + 6 * d) = 0 ∨ f (16 + 6 * d) = 1 := by
  obtain ⟨n, e, hn⟩ := Wf_n h hd (e := 5) (by omega)
  rw [show 11 + 6 * d + 5 = 16 + 6 * d by omega] at e
  have hn : (n : Int) ≤ 1 := hn
  rw [e]
  rcases (show n = 0 ∨ n = 1 by omega) with rfl | rfl
  · exact Or.inl rfl
  · exact Or.inr rfl
theorem M_gone_loop (hM : MM w h s) (hf : Wf (h 0)) : ∀ (n k d : Nat) (a : Int32) (x : Int32), x = nI d → d + k = dep (h 0) → k < n → F_M_goneOnes_4 n 49 a x w = some (gnN (h 0) k d a, w) := by
  intro n
  induction n with
  | zero => intro k d a x _ _ hk; exact absurd hk (by omega)
  | succ n ih =>
    intro k d a x hx hk hn
    obtain ⟨h8, h3⟩ := Wf_dep hf
    rw [F_M_goneOnes_4]
    simp only [hM.gr0, Option.bind_some, hM.rd0 (i := 3) (x := 3) (by omega) rfl]
    rw [h3, hx]
    cases k with
    | zero => rw [if_pos (nI_le (by omega) (by omega))]; rfl
    | succ k =>
      rw [if_neg (fun z => by rw [nI_leI (by omega) (by omega)] at z; omega)]
      have hd : d < 8 := by omega
      simp only [hM.ob_, Option.bind_some, M_it hM hd (e := 5) (y := 5) (by omega) rfl rfl]
      rw [show 11 + 6 * d + 5 = 16 + 6 * d by omega, gnN, ih k (d + 1) _ _ (nI_1 d) (by omega) (by omega)]
      rcases out01 hf hd with e | e
      · rw [e, if_pos rfl]
        have z : (0 : Int32) <<< (nI d &&& 31) = 0 := by simp
        rw [z, Int32.or_zero]
      · rw [e, if_neg (by decide)]
theorem M_goneOnes (hM : MM w h s) (hf : Wf (h 0)) : F_M_goneOnes 49 w = some (gns (h 0), w) := by
  have := Wf_dep hf
  exact M_gone_loop hM hf FU (dep (h 0)) 0 0 0 rfl (by omega) (by unfold FU; omega)
theorem R_dark_loop (hR : RC w t g) (hf : Wf g) : ∀ (n k d : Nat) (a : Int32) (x : Int32), x = nI d → d + k = 16 → k < n → F_R_darkHangers_4 n t a x w = some (dkN g k d a, w) := by
  intro n
  induction n with
  | zero => intro k d a x _ _ hk; exact absurd hk (by omega)
  | succ n ih =>
    intro k d a x hx hk hn
    rw [F_R_darkHangers_4, hx]
    cases k with
    | zero => rw [if_pos (show (16 : Int32) ≤ nI d from nI_le (a := 16) (by omega) (by omega))]; rfl
    | succ k =>
      rw [if_neg (show ¬ (16 : Int32) ≤ nI d from nI_ge (b := 16) (by omega) (by omega))]
      unfold F_R_darkHangers_24
      simp only [hR.ob_, Option.bind_some, R_lightAt hR hf (hh := d) (by omega) rfl]
      rw [dkN]
      split
      · rw [ih k (d + 1) _ _ (nI_1 d) (by omega) (by omega)]
      · rw [ih k (d + 1) _ _ (nI_1 d) (by omega) (by omega)]
theorem R_darkHangers (hR : RC w t g) (hf : Wf g) : F_R_darkHangers t w = some (drk g, w) := R_dark_loop hR hf FU 16 0 0 0 rfl (by omega) (by unfold FU; omega)
theorem M_dark_loop (hM : MM w h s) (hf : Wf (h 0)) : ∀ (n k d : Nat) (a : Int32) (x : Int32), x = nI d → d + k = 16 → k < n → F_M_darkOnes_4 n 49 a x w = some (dkN (h 0) k d a, w) := by
  intro n
  induction n with
  | zero => intro k d a x _ _ hk; exact absurd hk (by omega)
  | succ n ih =>
    intro k d a x hx hk hn
    rw [F_M_darkOnes_4, hx]
    cases k with
    | zero => rw [if_pos (show (16 : Int32) ≤ nI d from nI_le (a := 16) (by omega) (by omega))]; rfl
    | succ k =>
      rw [if_neg (show ¬ (16 : Int32) ≤ nI d from nI_ge (b := 16) (by omega) (by omega))]
      unfold F_M_darkOnes_26
      simp only [hM.ob_, Option.bind_some, M_lightAt hM hf]
      rw [dkN]
      split
      · rw [ih k (d + 1) _ _ (nI_1 d) (by omega) (by omega)]
      · rw [ih k (d + 1) _ _ (nI_1 d) (by omega) (by omega), Int32.or_zero]
theorem M_darkOnes (hM : MM w h s) (hf : Wf (h 0)) : F_M_darkOnes 49 w = some (drk (h 0), w) := M_dark_loop hM hf FU 16 0 0 0 rfl (by omega) (by unfold FU; omega)
theorem R_lt_loop (hR : RC w t g) (hf : Wf g) : ∀ (n k d b : Nat) (x y : Int32), x = nI d → d + k = 16 → k < n → F_R_lightestHanger_10 n t (nI b) (lgt g (nI b)) x w = some (nI (ltN g k d b), w) := by
  intro n
  induction n with
  | zero => intro k d b x y _ _ hk; exact absurd hk (by omega)
  | succ n ih =>
    intro k d b x y hx hk hn
    rw [F_R_lightestHanger_10, hx]
    cases k with
    | zero => rw [if_pos (show (16 : Int32) ≤ nI d from nI_le (a := 16) (by omega) (by omega))]; rfl
    | succ k =>
      rw [if_neg (show ¬ (16 : Int32) ≤ nI d from nI_ge (b := 16) (by omega) (by omega))]
      unfold F_R_lightestHanger_34
      simp only [hR.ob_, Option.bind_some, R_lightAt hR hf (hh := d) (by omega) rfl]
      rw [ltN]
      split
      · rw [ih k (d + 1) b _ 0 (nI_1 d) (by omega) (by omega)]
      · rw [ih k (d + 1) d _ 0 (nI_1 d) (by omega) (by omega)]
theorem R_lightestHanger (hR : RC w t g) (hf : Wf g) : F_R_lightestHanger t w = some (nI (ltH g), w) := by
  unfold F_R_lightestHanger F_R_lightestHanger_0
  simp only [hR.ob_, Option.bind_some, R_lightAt hR hf (hh := 0) (x := 0) (by omega) rfl]
  exact R_lt_loop hR hf FU 15 1 0 1 0 rfl (by omega) (by unfold FU; omega)
theorem M_lt_loop (hM : MM w h s) (hf : Wf (h 0)) : ∀ (n k d b : Nat) (x : Int32), x = nI d → d + k = 16 → k < n → F_M_lightest_4 n 49 (nI b) x w = some (nI (ltN (h 0) k d b), w) := by
  intro n
  induction n with
  | zero => intro k d b x _ _ hk; exact absurd hk (by omega)
  | succ n ih =>
    intro k d b x hx hk hn
    rw [F_M_lightest_4, hx]
    cases k with
    | zero => rw [if_pos (show (16 : Int32) ≤ nI d from nI_le (a := 16) (by omega) (by omega))]; rfl
    | succ k =>
      rw [if_neg (show ¬ (16 : Int32) ≤ nI d from nI_ge (b := 16) (by omega) (by omega))]
      unfold F_M_lightest_28
      simp only [hM.ob_, Option.bind_some, M_lightAt hM hf]
      rw [ltN]
      split
      · rw [ih k (d + 1) b _ (nI_1 d) (by omega) (by omega)]
      · rw [ih k (d + 1) d _ (nI_1 d) (by omega) (by omega)]
theorem M_lightest (hM : MM w h s) (hf : Wf (h 0)) : F_M_lightest 49 w = some (nI (ltH (h 0)), w) := M_lt_loop hM hf FU 15 1 0 1 rfl (by omega) (by unfold FU; omega)
theorem M_orNone_y (hM : MM w h s) {k : Nat} (hk : k < 2 ^ 31) : F_M_orNone 49 (nI k) w = some (nI k, w) := by
  unfold F_M_orNone F_M_orNone_0 F_M_orNone_14
  rw [if_pos (nI_pos' hk)]
theorem M_orNone_n (hM : MM w h s) : F_M_orNone 49 (-1) w = some (-1000004, mW w 3 (bmp h 3)) := by
  unfold F_M_orNone F_M_orNone_0 F_M_orNone_14
  rw [if_neg (by decide)]
  simp only [hM.ob_, Option.bind_some, M_finds hM (i := 3) (v := -1000004) (by omega) (by decide)]
end SUM
theorem st11 : St11 Rel := by
  intro a1 w ⟨h, s, g2, g3, q, R, G⟩
  by_cases c1 : 0 ≤ a1 ∧ a1 ≤ 7
  · have M := R.1
    obtain ⟨k, -, hk, rfl⟩ := btw (m := 0) (n := 7) rfl rfl (by omega) (by omega) c1
    rcases (show k = 0 ∨ k = 1 ∨ k = 2 ∨ k = 3 ∨ k = 4 ∨ k = 5 ∨ k = 6 ∨ k = 7 by omega) with rfl | rfl | rfl | rfl | rfl | rfl | rfl | rfl
    · refine SP_id R G (r1 := h 0 0) (r2 := h 0 0) ?_ ?_ rfl
      · unfold F_K_now F_K_now_0
        rw [if_pos (by decide)]
        simp only [K_within, K_isHanger, K_isKind, K_isSpot, K_isSheet, R_hasDeposit R.2.2.1, R_hasGirl R.2.2.1, R.kg0, R.kg1, R.kob, R.2.2.1.ob_, Option.bind_some, bI_0, R.2.2.1.gi0]
      · unfold F_M_now F_M_now_0 F_M_now_48
        rw [if_pos (by decide)]
        simp only [M_in, M_isHanger, M_isPlace, M_isDeposit M, M_isGirl M, M.ob_, M.gr0, Option.bind_some, bI_0, M.rd0 (i := 0) (x := 0 + nI 0) (by omega) rfl]
    · refine SP_id R G (r1 := h 0 1) (r2 := h 0 1) ?_ ?_ rfl
      · unfold F_K_now F_K_now_0
        rw [if_neg (by decide), if_pos (by decide)]
        simp only [K_within, K_isHanger, K_isKind, K_isSpot, K_isSheet, R_hasDeposit R.2.2.1, R_hasGirl R.2.2.1, R.kg0, R.kg1, R.kob, R.2.2.1.ob_, Option.bind_some, bI_0, R.2.2.1.gi1]
      · unfold F_M_now F_M_now_0 F_M_now_48
        rw [if_neg (by decide), if_pos (by decide)]
        simp only [M_in, M_isHanger, M_isPlace, M_isDeposit M, M_isGirl M, M.ob_, M.gr0, Option.bind_some, bI_0, M.rd0 (i := 1) (x := 0 + nI 1) (by omega) (by decide)]
    · refine SP_id R G (r1 := sms (h 0) 2) (r2 := sms (h 0) 2) ?_ ?_ rfl
      · unfold F_K_now F_K_now_0
        rw [if_neg (by decide), if_neg (by decide), if_pos (by decide)]
        simp only [K_within, K_isHanger, K_isKind, K_isSpot, K_isSheet, R_hasDeposit R.2.2.1, R_hasGirl R.2.2.1, R.kg0, R.kg1, R.kob, R.2.2.1.ob_, Option.bind_some, bI_0, R_metTogether R.2.2.1 G.1]
      · unfold F_M_now F_M_now_0 F_M_now_48
        rw [if_neg (by decide), if_neg (by decide), if_pos (by decide)]
        simp only [M_in, M_isHanger, M_isPlace, M_isDeposit M, M_isGirl M, M.ob_, M.gr0, Option.bind_some, bI_0, M_sums M G.1 (e := 2) (x := 2) (by omega) rfl]
    · refine SP_id R G (r1 := gns (h 0)) (r2 := gns (h 0)) ?_ ?_ rfl
      · unfold F_K_now F_K_now_0
        rw [if_neg (by decide), if_neg (by decide), if_neg (by decide), if_pos (by decide)]
        simp only [K_within, K_isHanger, K_isKind, K_isSpot, K_isSheet, R_hasDeposit R.2.2.1, R_hasGirl R.2.2.1, R.kg0, R.kg1, R.kob, R.2.2.1.ob_, Option.bind_some, bI_0, R_outSet R.2.2.1 G.1]
      · unfold F_M_now F_M_now_0 F_M_now_48
        rw [if_neg (by decide), if_neg (by decide), if_neg (by decide), if_pos (by decide)]
        simp only [M_in, M_isHanger, M_isPlace, M_isDeposit M, M_isGirl M, M.ob_, M.gr0, Option.bind_some, bI_0, M_goneOnes M G.1]
    · refine SP_id R G (r1 := drk (h 0)) (r2 := drk (h 0)) ?_ ?_ rfl
      · unfold F_K_now F_K_now_0
        rw [if_neg (by decide), if_neg (by decide), if_neg (by decide), if_neg (by decide), if_pos (by decide)]
        simp only [K_within, K_isHanger, K_isKind, K_isSpot, K_isSheet, R_hasDeposit R.2.2.1, R_hasGirl R.2.2.1, R.kg0, R.kg1, R.kob, R.2.2.1.ob_, Option.bind_some, bI_0, R_darkHangers R.2.2.1 G.1]
      · unfold F_M_now F_M_now_0 F_M_now_48
        rw [if_neg (by decide), if_neg (by decide), if_neg (by decide), if_neg (by decide), if_pos (by decide)]
        simp only [M_in, M_isHanger, M_isPlace, M_isDeposit M, M_isGirl M, M.ob_, M.gr0, Option.bind_some, bI_0, M_darkOnes M G.1]
    · refine SP_id R G (r1 := nI (ltH (h 0))) (r2 := nI (ltH (h 0))) ?_ ?_ rfl
      · unfold F_K_now F_K_now_0
        rw [if_neg (by decide), if_neg (by decide), if_neg (by decide), if_neg (by decide), if_neg (by decide), if_pos (by decide)]
        simp only [K_within, K_isHanger, K_isKind, K_isSpot, K_isSheet, R_hasDeposit R.2.2.1, R_hasGirl R.2.2.1, R.kg0, R.kg1, R.kob, R.2.2.1.ob_, Option.bind_some, bI_0, R_lightestHanger R.2.2.1 G.1]
      · unfold F_M_now F_M_now_0 F_M_now_48
        rw [if_neg (by decide), if_neg (by decide), if_neg (by decide), if_neg (by decide), if_neg (by decide), if_pos (by decide)]
        simp only [M_in, M_isHanger, M_isPlace, M_isDeposit M, M_isGirl M, M.ob_, M.gr0, Option.bind_some, bI_0, M_lightest M G.1]
    · refine SP_id R G (r1 := cas (h 0)) (r2 := cas (h 0)) ?_ ?_ rfl
      · unfold F_K_now F_K_now_0
        rw [if_neg (by decide), if_neg (by decide), if_neg (by decide), if_neg (by decide), if_neg (by decide), if_neg (by decide), if_pos (by decide)]
        simp only [K_within, K_isHanger, K_isKind, K_isSpot, K_isSheet, R_hasDeposit R.2.2.1, R_hasGirl R.2.2.1, R.kg0, R.kg1, R.kob, R.2.2.1.ob_, Option.bind_some, bI_0, R_costTogether R.2.2.1 G.1]
      · unfold F_M_now F_M_now_0 F_M_now_48
        rw [if_neg (by decide), if_neg (by decide), if_neg (by decide), if_neg (by decide), if_neg (by decide), if_neg (by decide), if_pos (by decide)]
        simp only [M_in, M_isHanger, M_isPlace, M_isDeposit M, M_isGirl M, M.ob_, M.gr0, Option.bind_some, bI_0, M_allCost M G.1]
    · refine SP_id R G (r1 := sms (h 0) 0) (r2 := sms (h 0) 0) ?_ ?_ rfl
      · unfold F_K_now F_K_now_0
        rw [if_neg (by decide), if_neg (by decide), if_neg (by decide), if_neg (by decide), if_neg (by decide), if_neg (by decide), if_neg (by decide), if_pos (by decide)]
        simp only [K_within, K_isHanger, K_isKind, K_isSpot, K_isSheet, R_hasDeposit R.2.2.1, R_hasGirl R.2.2.1, R.kg0, R.kg1, R.kob, R.2.2.1.ob_, Option.bind_some, bI_0, R_dreamTogether R.2.2.1 G.1]
      · unfold F_M_now F_M_now_0 F_M_now_48
        rw [if_neg (by decide), if_neg (by decide), if_neg (by decide), if_neg (by decide), if_neg (by decide), if_neg (by decide), if_neg (by decide), if_pos (by decide)]
        simp only [M_in, M_isHanger, M_isPlace, M_isDeposit M, M_isGirl M, M.ob_, M.gr0, Option.bind_some, bI_0, M_sums M G.1 (e := 0) (x := 0) (by omega) rfl]
  · refine SP_fd R G (i := 0) (r1 := (-1000001) - 0) (r2 := (-1000001)) ?_ (fun M => ?_) (by decide)
    · unfold F_K_now F_K_now_0
      rw [if_neg (fun z => c1 (by rw [z]; decide)), if_neg (fun z => c1 (by rw [z]; decide)), if_neg (fun z => c1 (by rw [z]; decide)), if_neg (fun z => c1 (by rw [z]; decide)), if_neg (fun z => c1 (by rw [z]; decide)), if_neg (fun z => c1 (by rw [z]; decide)), if_neg (fun z => c1 (by rw [z]; decide)), if_neg (fun z => c1 (by rw [z]; decide))]
      simp only [K_within, K_isHanger, K_isKind, K_isSpot, K_isSheet, R_hasDeposit R.2.2.1, R_hasGirl R.2.2.1, R.kg0, R.kg1, R.kob, R.2.2.1.ob_, Option.bind_some, bI_0, K_finding R (i := 0) (x := 0) (by omega) rfl]
    · unfold F_M_now F_M_now_0
      rw [if_neg (fun z => c1 (by rw [z]; decide)), if_neg (fun z => c1 (by rw [z]; decide)), if_neg (fun z => c1 (by rw [z]; decide)), if_neg (fun z => c1 (by rw [z]; decide)), if_neg (fun z => c1 (by rw [z]; decide)), if_neg (fun z => c1 (by rw [z]; decide)), if_neg (fun z => c1 (by rw [z]; decide)), if_neg (fun z => c1 (by rw [z]; decide))]
      simp only [M_in, M_isHanger, M_isPlace, M_isDeposit M, M_isGirl M, M.ob_, M.gr0, Option.bind_some, bI_0, M_finds M (i := 0) (v := -1000001) (by omega) (by decide)]
theorem st10 : St10 Rel := by
  intro a1 w ⟨h, s, g2, g3, q, R, G⟩
  by_cases c1 : 1 ≤ a1 ∧ a1 ≤ 60
  · by_cases c2 : h 0 0 + a1 ≤ 99999
    · obtain ⟨k, -, hk, rfl⟩ := btw (m := 1) (n := 60) rfl rfl (by omega) (by omega) c1
      refine SP_row R G (f := GON k (h 0)) (GON_Wf k _ G.1) (r1 := GON k (h 0) 1) (r2 := GON k (h 0) 1) ?_ (fun M => ?_) rfl
      · have hr := R.2.2.1.set (GON k (h 0))
        have ek : gr (rW w 1 (GON k (h 0))) 0 0 0 = some 1 := by unfold gr gf; rw [rW_at (by omega), R.2.1.1]; rfl
        unfold F_K_go F_K_go_0
        simp only [K_within, K_isHanger, K_isKind, K_isSpot, K_isSheet, R_hasDeposit R.2.2.1, R_hasGirl R.2.2.1, R.kg0, R.kg1, R.kob, R.2.2.1.ob_, Option.bind_some, bI_0]
        rw [if_neg (fun z => z c1)]
        simp only [K_within, K_isHanger, K_isKind, K_isSpot, K_isSheet, R_hasDeposit R.2.2.1, R_hasGirl R.2.2.1, R.kg0, R.kg1, R.kob, R.2.2.1.ob_, Option.bind_some, bI_0, R.2.2.1.gi0]
        rw [if_pos c2]
        simp only [K_within, K_isHanger, K_isKind, K_isSpot, K_isSheet, R_hasDeposit R.2.2.1, R_hasGirl R.2.2.1, R.kg0, R.kg1, R.kob, R.2.2.1.ob_, Option.bind_some, bI_0, R_passDays R.2.2.1 G.1 (n := k) (by omega) rfl, ek, hr.gi1]
      · have hr := M.set (a := 0) (by omega) (GON k (h 0))
        unfold F_M_go F_M_go_0
        simp only [M_in, M_isHanger, M_isPlace, M_isDeposit M, M_isGirl M, M.ob_, M.gr0, Option.bind_some, bI_0]
        rw [if_neg (fun z => z c1)]
        simp only [M_in, M_isHanger, M_isPlace, M_isDeposit M, M_isGirl M, M.ob_, M.gr0, Option.bind_some, bI_0, M.rd0 (i := 0) (x := 0) (by omega) rfl]
        rw [if_pos c2]
        simp only [M_in, M_isHanger, M_isPlace, M_isDeposit M, M_isGirl M, M.ob_, M.gr0, Option.bind_some, bI_0, M_goesFor M G.1 (n := k) (by omega) rfl, hr.gr0, hr.rd0 (i := 1) (x := 1) (by omega) rfl, hset_self]
    · refine SP_fd R G (i := 4) (r1 := (-1000001) - 4) (r2 := (-1000005)) ?_ (fun M => ?_) (by decide)
      · unfold F_K_go F_K_go_0
        simp only [K_within, K_isHanger, K_isKind, K_isSpot, K_isSheet, R_hasDeposit R.2.2.1, R_hasGirl R.2.2.1, R.kg0, R.kg1, R.kob, R.2.2.1.ob_, Option.bind_some, bI_0]
        rw [if_neg (fun z => z c1)]
        simp only [K_within, K_isHanger, K_isKind, K_isSpot, K_isSheet, R_hasDeposit R.2.2.1, R_hasGirl R.2.2.1, R.kg0, R.kg1, R.kob, R.2.2.1.ob_, Option.bind_some, bI_0, R.2.2.1.gi0]
        rw [if_neg c2]
        simp only [K_within, K_isHanger, K_isKind, K_isSpot, K_isSheet, R_hasDeposit R.2.2.1, R_hasGirl R.2.2.1, R.kg0, R.kg1, R.kob, R.2.2.1.ob_, Option.bind_some, bI_0, K_finding R (i := 4) (x := 4) (by omega) rfl]
      · unfold F_M_go F_M_go_0
        simp only [M_in, M_isHanger, M_isPlace, M_isDeposit M, M_isGirl M, M.ob_, M.gr0, Option.bind_some, bI_0]
        rw [if_neg (fun z => z c1)]
        simp only [M_in, M_isHanger, M_isPlace, M_isDeposit M, M_isGirl M, M.ob_, M.gr0, Option.bind_some, bI_0, M.rd0 (i := 0) (x := 0) (by omega) rfl]
        rw [if_neg c2]
        simp only [M_in, M_isHanger, M_isPlace, M_isDeposit M, M_isGirl M, M.ob_, M.gr0, Option.bind_some, bI_0, M_finds M (i := 4) (v := -1000005) (by omega) (by decide)]
  · refine SP_fd R G (i := 0) (r1 := (-1000001) - 0) (r2 := (-1000001)) ?_ (fun M => ?_) (by decide)
    · unfold F_K_go F_K_go_0
      simp only [K_within, K_isHanger, K_isKind, K_isSpot, K_isSheet, R_hasDeposit R.2.2.1, R_hasGirl R.2.2.1, R.kg0, R.kg1, R.kob, R.2.2.1.ob_, Option.bind_some, bI_0]
      rw [if_pos c1]
      simp only [K_within, K_isHanger, K_isKind, K_isSpot, K_isSheet, R_hasDeposit R.2.2.1, R_hasGirl R.2.2.1, R.kg0, R.kg1, R.kob, R.2.2.1.ob_, Option.bind_some, bI_0, K_finding R (i := 0) (x := 0) (by omega) rfl]
    · unfold F_M_go F_M_go_0
      simp only [M_in, M_isHanger, M_isPlace, M_isDeposit M, M_isGirl M, M.ob_, M.gr0, Option.bind_some, bI_0]
      rw [if_pos c1]
      simp only [M_in, M_isHanger, M_isPlace, M_isDeposit M, M_isGirl M, M.ob_, M.gr0, Option.bind_some, bI_0, M_finds M (i := 0) (v := (-1000001)) (by omega) (by decide)]
