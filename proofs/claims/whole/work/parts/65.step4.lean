/-! what is only tried: the trial room, the model's own copy -/
theorem mW_cm (w : A_W) {a b : Nat} (h : a ≠ b) (f g : Nat → Int32) : mW (mW w a f) b g = mW (mW w b g) a f := by
  unfold mW
  rw [List.set_comm _ _ (by omega)]
section TRY
variable {w : A_W} {h : Nat → Nat → Int32} {s : Nat → Int32} {g2 g3 q : Nat → Int32}
theorem SP_tr {T : Type} (R : RelX w h s g2 g3 q) (G : Gd h s g3 q) {a b : A_W → Option (T × A_W)} {t : Nat → Int32} {r1 r2 : T} (ha : a w = some (r1, rW w 13 t)) (hb : MM (rW w 13 t) h s → b (rW w 13 t) = some (r2, mW (rW w 13 t) 2 (cpR (h 0) (h 2)))) (e : r1 = r2) : ∃ p1 p2 : T × A_W, a w = some p1 ∧ b p1.2 = some p2 ∧ p1.1 = p2.1 ∧ Rel p2.2 ∧ ∃ f, ob p1.2 49 4 = some f :=
  ⟨_, _, ha, hb (R.trial t).1, e, ⟨_, _, _, _, _, (R.trial t).was _, Gd_was G _⟩, _, (R.trial t).1.ob_⟩
theorem SP_trf {T : Type} (R : RelX w h s g2 g3 q) (G : Gd h s g3 q) {a b : A_W → Option (T × A_W)} {t : Nat → Int32} {i : Nat} {r1 r2 : T} (ha : a w = some (r1, fW (rW w 13 t) (bmp h i))) (hb : MM (fW (rW w 13 t) (bmp h i)) h s → b (fW (rW w 13 t) (bmp h i)) = some (r2, mW (mW (fW (rW w 13 t) (bmp h i)) 2 (cpR (h 0) (h 2))) 3 (bmp h i))) (e : r1 = r2) : ∃ p1 p2 : T × A_W, a w = some p1 ∧ b p1.2 = some p2 ∧ p1.1 = p2.1 ∧ Rel p2.2 ∧ ∃ f, ob p1.2 49 4 = some f := by
  have M := MM_fW (R.trial t).1 (bmp h i)
  refine ⟨_, _, ha, hb M, e, ?_, _, M.ob_⟩
  show Rel (mW (mW (fW (rW w 13 t) (bmp h i)) 2 (cpR (h 0) (h 2))) 3 (bmp h i))
  rw [mW_cm _ (by omega)]
  exact ⟨_, _, _, _, _, ((R.trial t).found _).was _, Gd_was (Gd_found G _) _⟩
theorem K_tryDays (R : RelX w h s g2 g3 q) (hf : Wf (h 0)) {n : Nat} (hn : n < 100000) {x : Int32} (hx : x = nI n) : F_K_tryDays 0 x w = some (rW w 13 (GON n (h 0))) := by
  unfold F_K_tryDays F_K_tryDays_0
  have R1 := R.trial (h 0)
  simp only [R.kg1, R.kg0, Option.bind_some, R.2.2.2.1.ob_, R_become R.2.2.2.1 R.2.2.1 (by omega), R1.kg1, R1.2.2.2.1.ob_, R_passDays R1.2.2.2.1 hf hn hx, rW_rW]
theorem bmp_was (f : Nat → Int32) (i : Nat) : bmp (hset h 2 f) i = bmp h i := by unfold bmp; rw [hset_ne _ _ (by omega)]
/-- behind how many days a place is so much -/
def muN (p : Nat) (v : Int32) : Nat → Nat → (Nat → Int32) → Option Nat × (Nat → Int32)
  | 0, _, f => (none, f)
  | k + 1, n, f => if f p < v then muN p v k (n + 1) (GOES f) else (some n, f)
theorem K_few_loop {x1 x2 v : Int32} {p : Nat} (hg : ∀ (w : A_W) (f : Nat → Int32), RC w 13 f → F_R_gauge 13 x1 x2 w = some (f p, w)) : ∀ (m k n : Nat) (w : A_W) (g2 : Nat → Int32) (x : Int32), RelX w h s g2 g3 q → Wf g2 → x = nI n → n + k = 201 → k < m → F_K_fewestDays_14 m 0 x1 x2 v x w = match (muN p v k n g2).1 with | some j => some (nI j, rW w 13 (muN p v k n g2).2) | none => some ((-1000001) - 3, fW (rW w 13 (muN p v k n g2).2) (bmp h 3)) := by
  intro m
  induction m with
  | zero => intro k n w g2 x _ _ _ _ hk; exact absurd hk (by omega)
  | succ m ih =>
    intro k n w g2 x R hf hx hk hm
    rw [F_K_fewestDays_14, hx]
    cases k with
    | zero =>
      rw [if_pos (show (200 : Int32) < nI n from nI_lt (a := 200) (by omega) (by omega))]
      simp only [R.kob, Option.bind_some, K_finding R (i := 3) (x := 3) (by omega) rfl, muN]
      rw [R.2.2.2.1.rW_id]
    | succ k =>
      rw [if_neg (show ¬ (200 : Int32) < nI n from nI_nlt (a := 200) (by omega) (by omega))]
      simp only [R.kg1, Option.bind_some, R.2.2.2.1.ob_, hg w g2 R.2.2.2.1, muN]
      by_cases c : g2 p < v
      · rw [if_pos c, if_pos c]
        simp only [R_passDays R.2.2.2.1 hf (n := 1) (x := 1) (by omega) rfl, Option.bind_some]
        have h3 := ih k (n + 1) _ (GOES g2) (nI n + 1) (R.trial (GOES g2)) (GOES_Wf hf) (nI_1 n) (by omega) (by omega)
        rw [rW_rW] at h3
        exact h3
      · rw [if_neg c, if_neg c]
        show some (nI n, w) = some (nI n, rW w 13 g2)
        rw [R.2.2.2.1.rW_id]
theorem K_fewestDays (R : RelX w h s g2 g3 q) (hf : Wf (h 0)) {x1 x2 v : Int32} {p : Nat} (hg : ∀ (w : A_W) (f : Nat → Int32), RC w 13 f → F_R_gauge 13 x1 x2 w = some (f p, w)) : F_K_fewestDays 0 x1 x2 v w = match (muN p v 201 0 (h 0)).1 with | some j => some (nI j, rW w 13 (muN p v 201 0 (h 0)).2) | none => some ((-1000001) - 3, fW (rW w 13 (muN p v 201 0 (h 0)).2) (bmp h 3)) := by
  unfold F_K_fewestDays F_K_fewestDays_0
  simp only [R.kg1, R.kg0, Option.bind_some, R.2.2.2.1.ob_, R_become R.2.2.2.1 R.2.2.1 (by omega)]
  have h3 := K_few_loop (v := v) hg FU 201 0 _ _ 0 (R.trial (h 0)) hf rfl (by omega) (by unfold FU; omega)
  rw [rW_rW] at h3
  exact h3
theorem M_much_33 (hM : MM w h s) {f : Nat → Int32} (ht : Tl (h 0) f) {n : Nat} (hn : n ≤ 1000) : F_M_muchIn_33 49 (nI n) (mW (mW w 2 (cpR (h 0) (h 2))) 0 f) = if n ≤ 200 then some (nI n, mW w 2 (cpR (h 0) (h 2))) else some (-1000004, mW (mW w 2 (cpR (h 0) (h 2))) 3 (bmp h 3)) := by
  have h1 := hM.set (a := 2) (by omega) (cpR (h 0) (h 2))
  have h2 := h1.set (a := 0) (by omega) f
  unfold F_M_muchIn_33 F_M_muchIn_54
  simp only [h2.ob_, Option.bind_some, M_back hM ht]
  by_cases c : n ≤ 200
  · rw [if_pos c, if_pos (show nI n ≤ (200 : Int32) from nI_le (b := 200) (by omega) (by omega))]
  · rw [if_neg c, if_neg (show ¬ nI n ≤ (200 : Int32) from nI_ge (a := 200) (by omega) (by omega))]
    simp only [h1.ob_, Option.bind_some, M_finds h1 (i := 3) (v := -1000004) (by omega) (by decide), bmp_was]
theorem M_much_loop (hM : MM w h s) {v : Int32} {p : Nat} (hp : p < 87) : ∀ (m k n : Nat) (f : Nat → Int32) (x : Int32), Tl (h 0) f → Wf f → x = nI n → n + k = 201 → k < m → F_M_muchIn_6 m 49 (nI p) v x (mW (mW w 2 (cpR (h 0) (h 2))) 0 f) = match (muN p v k n f).1 with | some j => some (nI j, mW w 2 (cpR (h 0) (h 2))) | none => some (-1000004, mW (mW w 2 (cpR (h 0) (h 2))) 3 (bmp h 3)) := by
  intro m
  induction m with
  | zero => intro k n f x _ _ _ _ hk; exact absurd hk (by omega)
  | succ m ih =>
    intro k n f x ht hf hx hk hm
    have h1 := hM.set (a := 2) (by omega) (cpR (h 0) (h 2))
    have h2 := h1.set (a := 0) (by omega) f
    rw [F_M_muchIn_6, hx]
    cases k with
    | zero =>
      rw [if_pos (show (200 : Int32) < nI n from nI_lt (a := 200) (by omega) (by omega)), M_much_33 hM ht (by omega), if_neg (by omega)]
      rfl
    | succ k =>
      rw [if_neg (show ¬ (200 : Int32) < nI n from nI_nlt (a := 200) (by omega) (by omega))]
      simp only [h2.gr0, Option.bind_some, h2.rd0 hp rfl, hset_self, muN]
      by_cases c : f p < v
      · rw [if_neg (Int32.not_le.mpr c), if_pos c]
        simp only [h2.ob_, Option.bind_some, M_goes h2 (by rw [hset_self]; exact hf), hset_self, mW_mW]
        exact ih k (n + 1) (GOES f) (nI n + 1) (ht.tr (GOES_Tl hf)) (GOES_Wf hf) (nI_1 n) (by omega) (by omega)
      · rw [if_pos (Int32.not_lt.mp c), if_neg c, M_much_33 hM ht (by omega), if_pos (by omega)]
theorem M_muchIn (hM : MM w h s) (hf : Wf (h 0)) {v : Int32} {p : Nat} (hp : p < 87) {x : Int32} (hx : x = nI p) : F_M_muchIn 49 x v w = match (muN p v 201 0 (h 0)).1 with | some j => some (nI j, mW w 2 (cpR (h 0) (h 2))) | none => some (-1000004, mW (mW w 2 (cpR (h 0) (h 2))) 3 (bmp h 3)) := by
  unfold F_M_muchIn F_M_muchIn_0
  simp only [hM.ob_, Option.bind_some, M_thinks hM]
  have h1 := hM.set (a := 2) (by omega) (cpR (h 0) (h 2))
  have e : (hset h 2 (cpR (h 0) (h 2))) 0 = h 0 := hset_ne _ _ (by omega)
  have h4 := h1.mW_id (a := 0) (by omega)
  rw [e] at h4
  have h3 := M_much_loop hM (v := v) hp FU 201 0 (h 0) 0 (Tl.rf _) hf rfl (by omega) (by unfold FU; omega)
  rw [h4] at h3
  subst hx
  exact h3
end TRY
theorem st14 : St14 Rel := by
  intro a1 a2 w ⟨h, s, g2, g3, q, R, G⟩
  by_cases c1 : 0 ≤ a1 ∧ a1 ≤ 15
  · by_cases c2 : 0 ≤ a2 ∧ a2 ≤ 100
    · obtain ⟨k, -, hk, rfl⟩ := btw (m := 0) (n := 15) rfl rfl (by omega) (by omega) c1
      obtain ⟨n, -, hn, rfl⟩ := btw (m := 0) (n := 100) rfl rfl (by omega) (by omega) c2
      have R1 := R.trial (GON n (h 0))
      have hW := GON_Wf n _ G.1
      refine SP_tr R G (t := GON n (h 0)) (r1 := lgt (GON n (h 0)) (nI k)) (r2 := lgt (GON n (h 0)) (nI k)) ?_ (fun M => ?_) rfl
      · unfold F_K_dawn F_K_dawn_0
        simp only [K_within, K_isHanger, K_isKind, K_isSpot, K_isSheet, R_hasDeposit R.2.2.1, R_hasGirl R.2.2.1, R.kg0, R.kg1, R.kob, R.2.2.1.ob_, Option.bind_some, bI_0]
        rw [if_neg (fun z => z c1), if_neg (fun z => z c2)]
        simp only [K_within, K_isHanger, K_isKind, K_isSpot, K_isSheet, R_hasDeposit R.2.2.1, R_hasGirl R.2.2.1, R.kg0, R.kg1, R.kob, R.2.2.1.ob_, Option.bind_some, bI_0, K_tryDays R G.1 (n := n) (x := nI n) (by omega) rfl, R1.kg1, R1.2.2.2.1.ob_, R_lightAt R1.2.2.2.1 hW (hh := k) (by omega) rfl]
      · have m1 := M.set (a := 2) (by omega) (cpR (h 0) (h 2))
        have e0 : (hset h 2 (cpR (h 0) (h 2))) 0 = h 0 := hset_ne _ _ (by omega)
        have m2 := m1.set (a := 0) (by omega) (GON n (h 0))
        have hW2 : Wf ((hset (hset h 2 (cpR (h 0) (h 2))) 0 (GON n (h 0))) 0) := by rw [hset_self]; exact hW
        have mg := M_goesFor m1 (by rw [e0]; exact G.1) (n := n) (x := nI n) (by omega) rfl
        rw [e0] at mg
        have mb := M_back M (g := GON n (h 0)) (GON_Tl n _ G.1)
        unfold F_M_dawn F_M_dawn_0
        simp only [M_in, M_isHanger, M_isPlace, M_isDeposit M, M_isGirl M, M.ob_, M.gr0, Option.bind_some, bI_0]
        rw [if_neg (fun z => z c1), if_neg (fun z => z c2)]
        simp only [M_in, M_isHanger, M_isPlace, M_isDeposit M, M_isGirl M, M.ob_, M.gr0, Option.bind_some, bI_0, M_thinks M, m1.ob_, mg, m2.ob_, M_lightAt m2 hW2, hset_self, mb]
    · refine SP_fd R G (i := 0) (r1 := (-1000001) - 0) (r2 := (-1000001)) ?_ (fun M => ?_) (by decide)
      · unfold F_K_dawn F_K_dawn_0 F_K_dawn_17
        simp only [K_within, K_isHanger, K_isKind, K_isSpot, K_isSheet, R_hasDeposit R.2.2.1, R_hasGirl R.2.2.1, R.kg0, R.kg1, R.kob, R.2.2.1.ob_, Option.bind_some, bI_0]
        rw [if_neg (fun z => z c1), if_pos c2]
        simp only [K_within, K_isHanger, K_isKind, K_isSpot, K_isSheet, R_hasDeposit R.2.2.1, R_hasGirl R.2.2.1, R.kg0, R.kg1, R.kob, R.2.2.1.ob_, Option.bind_some, bI_0, K_finding R (i := 0) (x := 0) (by omega) rfl]
      · unfold F_M_dawn F_M_dawn_0 F_M_dawn_17
        simp only [M_in, M_isHanger, M_isPlace, M_isDeposit M, M_isGirl M, M.ob_, M.gr0, Option.bind_some, bI_0]
        rw [if_neg (fun z => z c1), if_pos c2]
        simp only [M_in, M_isHanger, M_isPlace, M_isDeposit M, M_isGirl M, M.ob_, M.gr0, Option.bind_some, bI_0, M_finds M (i := 0) (v := (-1000001)) (by omega) (by decide)]
  · refine SP_fd R G (i := 0) (r1 := (-1000001) - 0) (r2 := (-1000001)) ?_ (fun M => ?_) (by decide)
    · unfold F_K_dawn F_K_dawn_0 F_K_dawn_17
      simp only [K_within, K_isHanger, K_isKind, K_isSpot, K_isSheet, R_hasDeposit R.2.2.1, R_hasGirl R.2.2.1, R.kg0, R.kg1, R.kob, R.2.2.1.ob_, Option.bind_some, bI_0]
      rw [if_pos c1]
      simp only [K_within, K_isHanger, K_isKind, K_isSpot, K_isSheet, R_hasDeposit R.2.2.1, R_hasGirl R.2.2.1, R.kg0, R.kg1, R.kob, R.2.2.1.ob_, Option.bind_some, bI_0, K_finding R (i := 0) (x := 0) (by omega) rfl]
    · unfold F_M_dawn F_M_dawn_0 F_M_dawn_17
      simp only [M_in, M_isHanger, M_isPlace, M_isDeposit M, M_isGirl M, M.ob_, M.gr0, Option.bind_some, bI_0]
      rw [if_pos c1]
      simp only [M_in, M_isHanger, M_isPlace, M_isDeposit M, M_isGirl M, M.ob_, M.gr0, Option.bind_some, bI_0, M_finds M (i := 0) (v := (-1000001)) (by omega) (by decide)]
theorem R_tell13 {w : A_W} {g : Nat → Int32} (hR : RC w 13 g) (hf : Wf g) {d : Nat} (hd : d < 8) : F_R_tellOf 13 (nI d) 3 w = some (g (14 + 6 * d), w) ∧ F_R_tellOf 13 (nI d) 4 w = some (g (15 + 6 * d), w) ∧ F_R_tellOf 13 (nI d) 6 w = some (shn g d, w) ∧ F_R_tellOf 13 (nI d) 7 w = some (rch g d, w) := by
  unfold F_R_tellOf F_R_tellOf_0 F_R_depositRow F_R_depositRow_0
  refine ⟨?_, ?_, ?_, ?_⟩
  · rw [if_neg (by decide), if_neg (by decide), if_neg (by decide), if_neg (by decide)]
    simp only [hR.ob_, Option.bind_some]
    rw [if_neg (by decide), if_neg (by decide), if_neg (by decide), if_pos (by decide)]
    simp only [hR.b_gr9, Option.bind_some, hR.b_rd_kept hd rfl]
  · rw [if_neg (by decide), if_neg (by decide), if_neg (by decide), if_neg (by decide)]
    simp only [hR.ob_, Option.bind_some]
    rw [if_neg (by decide), if_neg (by decide), if_neg (by decide), if_neg (by decide), if_pos (by decide)]
    simp only [hR.b_gr10, Option.bind_some, hR.b_rd_worn hd rfl]
  · rw [if_pos (by decide)]
    simp only [hR.ob_, Option.bind_some, R_shineOf hR hf hd rfl]
  · rw [if_neg (by decide), if_pos (by decide)]
    simp only [hR.ob_, Option.bind_some, R_reachOf hR hd rfl]
theorem st12 : St12 Rel := by
  intro a1 a2 a3 w ⟨h, s, g2, g3, q, R, G⟩
  by_cases c0 : a2 = 3 ∨ a2 = 4 ∨ a2 = 6 ∨ a2 = 7
  · by_cases c1 : 0 ≤ a1 ∧ a1 ≤ h 0 3 - 1
    · by_cases c2 : 0 ≤ a3 ∧ a3 ≤ 100
      · have hc := c1
        rw [(Wf_dep G.1).2] at hc
        obtain ⟨d, hd, rfl⟩ := (in_iff (by have := Wf_dep G.1; omega)).mp hc
        have hd8 : d < 8 := by have := Wf_dep G.1; omega
        obtain ⟨n, -, hn, rfl⟩ := btw (m := 0) (n := 100) rfl rfl (by omega) (by omega) c2
        have R1 := R.trial (GON n (h 0))
        have hW := GON_Wf n _ G.1
        obtain ⟨k3, k4, k6, k7⟩ := R_tell13 R1.2.2.2.1 hW hd8
        rcases c0 with rfl | rfl | rfl | rfl
        · refine SP_tr R G (t := GON n (h 0)) (r1 := GON n (h 0) (14 + 6 * d)) (r2 := GON n (h 0) (14 + 6 * d)) ?_ (fun M => ?_) rfl
          · unfold F_K_ahead F_K_ahead_0 F_K_ahead_22 F_K_ahead_27 F_K_ahead_55
            rw [if_pos (by decide)]
            simp only [K_within, K_isHanger, K_isKind, K_isSpot, K_isSheet, R_hasDeposit R.2.2.1, R_hasGirl R.2.2.1, R.kg0, R.kg1, R.kob, R.2.2.1.ob_, Option.bind_some, bI_0]
            rw [if_neg (fun z => z c1), if_neg (by decide), if_neg (fun z => z c2)]
            simp only [K_within, K_isHanger, K_isKind, K_isSpot, K_isSheet, R_hasDeposit R.2.2.1, R_hasGirl R.2.2.1, R.kg0, R.kg1, R.kob, R.2.2.1.ob_, Option.bind_some, bI_0, K_tryDays R G.1 (n := n) (x := nI n) (by omega) rfl, R1.kg1, R1.2.2.2.1.ob_, k3]
          · have m1 := M.set (a := 2) (by omega) (cpR (h 0) (h 2))
            have e0 : (hset h 2 (cpR (h 0) (h 2))) 0 = h 0 := hset_ne _ _ (by omega)
            have m2 := m1.set (a := 0) (by omega) (GON n (h 0))
            have hW2 : Wf ((hset (hset h 2 (cpR (h 0) (h 2))) 0 (GON n (h 0))) 0) := by rw [hset_self]; exact hW
            have mg := M_goesFor m1 (by rw [e0]; exact G.1) (n := n) (x := nI n) (by omega) rfl
            rw [e0] at mg
            have mb := M_back M (g := GON n (h 0)) (GON_Tl n _ G.1)
            unfold F_M_ahead F_M_ahead_0 F_M_ahead_22 F_M_ahead_27 F_M_ahead_52 F_M_ahead_102
            rw [if_pos (by decide)]
            simp only [M_in, M_isHanger, M_isPlace, M_isDeposit M, M_isGirl M, M.ob_, M.gr0, Option.bind_some, bI_0]
            rw [if_neg (fun z => z c1), if_neg (by decide), if_neg (fun z => z c2)]
            simp only [M_in, M_isHanger, M_isPlace, M_isDeposit M, M_isGirl M, M.ob_, M.gr0, Option.bind_some, bI_0, M_thinks M, m1.ob_, mg]
            rw [if_neg (by decide), if_neg (by decide)]
            simp only [m2.ob_, Option.bind_some, M_it m2 hd8 (e := 3) (y := 3) (by omega) rfl rfl, hset_self, mb]
            rw [show 11 + 6 * d + 3 = 14 + 6 * d by omega]
        · refine SP_tr R G (t := GON n (h 0)) (r1 := GON n (h 0) (15 + 6 * d)) (r2 := GON n (h 0) (15 + 6 * d)) ?_ (fun M => ?_) rfl
          · unfold F_K_ahead F_K_ahead_0 F_K_ahead_22 F_K_ahead_27 F_K_ahead_55
            rw [if_neg (by decide), if_pos (by decide)]
            simp only [K_within, K_isHanger, K_isKind, K_isSpot, K_isSheet, R_hasDeposit R.2.2.1, R_hasGirl R.2.2.1, R.kg0, R.kg1, R.kob, R.2.2.1.ob_, Option.bind_some, bI_0]
            rw [if_neg (fun z => z c1), if_neg (by decide), if_neg (fun z => z c2)]
            simp only [K_within, K_isHanger, K_isKind, K_isSpot, K_isSheet, R_hasDeposit R.2.2.1, R_hasGirl R.2.2.1, R.kg0, R.kg1, R.kob, R.2.2.1.ob_, Option.bind_some, bI_0, K_tryDays R G.1 (n := n) (x := nI n) (by omega) rfl, R1.kg1, R1.2.2.2.1.ob_, k4]
          · have m1 := M.set (a := 2) (by omega) (cpR (h 0) (h 2))
            have e0 : (hset h 2 (cpR (h 0) (h 2))) 0 = h 0 := hset_ne _ _ (by omega)
            have m2 := m1.set (a := 0) (by omega) (GON n (h 0))
            have hW2 : Wf ((hset (hset h 2 (cpR (h 0) (h 2))) 0 (GON n (h 0))) 0) := by rw [hset_self]; exact hW
            have mg := M_goesFor m1 (by rw [e0]; exact G.1) (n := n) (x := nI n) (by omega) rfl
            rw [e0] at mg
            have mb := M_back M (g := GON n (h 0)) (GON_Tl n _ G.1)
            unfold F_M_ahead F_M_ahead_0 F_M_ahead_22 F_M_ahead_27 F_M_ahead_52 F_M_ahead_102
            rw [if_neg (by decide), if_pos (by decide)]
            simp only [M_in, M_isHanger, M_isPlace, M_isDeposit M, M_isGirl M, M.ob_, M.gr0, Option.bind_some, bI_0]
            rw [if_neg (fun z => z c1), if_neg (by decide), if_neg (fun z => z c2)]
            simp only [M_in, M_isHanger, M_isPlace, M_isDeposit M, M_isGirl M, M.ob_, M.gr0, Option.bind_some, bI_0, M_thinks M, m1.ob_, mg]
            rw [if_neg (by decide), if_neg (by decide)]
            simp only [m2.ob_, Option.bind_some, M_it m2 hd8 (e := 4) (y := 4) (by omega) rfl rfl, hset_self, mb]
            rw [show 11 + 6 * d + 4 = 15 + 6 * d by omega]
        · refine SP_tr R G (t := GON n (h 0)) (r1 := shn (GON n (h 0)) d) (r2 := shn (GON n (h 0)) d) ?_ (fun M => ?_) rfl
          · unfold F_K_ahead F_K_ahead_0 F_K_ahead_22 F_K_ahead_27 F_K_ahead_55
            rw [if_neg (by decide), if_neg (by decide), if_pos (by decide)]
            simp only [K_within, K_isHanger, K_isKind, K_isSpot, K_isSheet, R_hasDeposit R.2.2.1, R_hasGirl R.2.2.1, R.kg0, R.kg1, R.kob, R.2.2.1.ob_, Option.bind_some, bI_0]
            rw [if_neg (fun z => z c1), if_neg (by decide), if_neg (fun z => z c2)]
            simp only [K_within, K_isHanger, K_isKind, K_isSpot, K_isSheet, R_hasDeposit R.2.2.1, R_hasGirl R.2.2.1, R.kg0, R.kg1, R.kob, R.2.2.1.ob_, Option.bind_some, bI_0, K_tryDays R G.1 (n := n) (x := nI n) (by omega) rfl, R1.kg1, R1.2.2.2.1.ob_, k6]
          · have m1 := M.set (a := 2) (by omega) (cpR (h 0) (h 2))
            have e0 : (hset h 2 (cpR (h 0) (h 2))) 0 = h 0 := hset_ne _ _ (by omega)
            have m2 := m1.set (a := 0) (by omega) (GON n (h 0))
            have hW2 : Wf ((hset (hset h 2 (cpR (h 0) (h 2))) 0 (GON n (h 0))) 0) := by rw [hset_self]; exact hW
            have mg := M_goesFor m1 (by rw [e0]; exact G.1) (n := n) (x := nI n) (by omega) rfl
            rw [e0] at mg
            have mb := M_back M (g := GON n (h 0)) (GON_Tl n _ G.1)
            unfold F_M_ahead F_M_ahead_0 F_M_ahead_22 F_M_ahead_27 F_M_ahead_52 F_M_ahead_102
            rw [if_neg (by decide), if_neg (by decide), if_pos (by decide)]
            simp only [M_in, M_isHanger, M_isPlace, M_isDeposit M, M_isGirl M, M.ob_, M.gr0, Option.bind_some, bI_0]
            rw [if_neg (fun z => z c1), if_neg (by decide), if_neg (fun z => z c2)]
            simp only [M_in, M_isHanger, M_isPlace, M_isDeposit M, M_isGirl M, M.ob_, M.gr0, Option.bind_some, bI_0, M_thinks M, m1.ob_, mg]
            rw [if_pos (by decide)]
            simp only [m2.ob_, Option.bind_some, M_shines m2 hd8 rfl, hset_self, mb]
        · refine SP_tr R G (t := GON n (h 0)) (r1 := rch (GON n (h 0)) d) (r2 := rch (GON n (h 0)) d) ?_ (fun M => ?_) rfl
          · unfold F_K_ahead F_K_ahead_0 F_K_ahead_22 F_K_ahead_27 F_K_ahead_55
            rw [if_neg (by decide), if_neg (by decide), if_neg (by decide), if_pos (by decide)]
            simp only [K_within, K_isHanger, K_isKind, K_isSpot, K_isSheet, R_hasDeposit R.2.2.1, R_hasGirl R.2.2.1, R.kg0, R.kg1, R.kob, R.2.2.1.ob_, Option.bind_some, bI_0]
            rw [if_neg (fun z => z c1), if_neg (by decide), if_neg (fun z => z c2)]
            simp only [K_within, K_isHanger, K_isKind, K_isSpot, K_isSheet, R_hasDeposit R.2.2.1, R_hasGirl R.2.2.1, R.kg0, R.kg1, R.kob, R.2.2.1.ob_, Option.bind_some, bI_0, K_tryDays R G.1 (n := n) (x := nI n) (by omega) rfl, R1.kg1, R1.2.2.2.1.ob_, k7]
          · have m1 := M.set (a := 2) (by omega) (cpR (h 0) (h 2))
            have e0 : (hset h 2 (cpR (h 0) (h 2))) 0 = h 0 := hset_ne _ _ (by omega)
            have m2 := m1.set (a := 0) (by omega) (GON n (h 0))
            have hW2 : Wf ((hset (hset h 2 (cpR (h 0) (h 2))) 0 (GON n (h 0))) 0) := by rw [hset_self]; exact hW
            have mg := M_goesFor m1 (by rw [e0]; exact G.1) (n := n) (x := nI n) (by omega) rfl
            rw [e0] at mg
            have mb := M_back M (g := GON n (h 0)) (GON_Tl n _ G.1)
            unfold F_M_ahead F_M_ahead_0 F_M_ahead_22 F_M_ahead_27 F_M_ahead_52 F_M_ahead_102
            rw [if_neg (by decide), if_neg (by decide), if_neg (by decide), if_pos (by decide)]
            simp only [M_in, M_isHanger, M_isPlace, M_isDeposit M, M_isGirl M, M.ob_, M.gr0, Option.bind_some, bI_0]
            rw [if_neg (fun z => z c1), if_neg (by decide), if_neg (fun z => z c2)]
            simp only [M_in, M_isHanger, M_isPlace, M_isDeposit M, M_isGirl M, M.ob_, M.gr0, Option.bind_some, bI_0, M_thinks M, m1.ob_, mg]
            rw [if_neg (by decide), if_pos (by decide)]
            simp only [m2.ob_, Option.bind_some, M_reaches m2 hd8 rfl, hset_self, mb]
      · rcases c0 with rfl | rfl | rfl | rfl
        · refine SP_fd R G (i := 0) (r1 := (-1000001) - 0) (r2 := (-1000001)) ?_ (fun M => ?_) (by decide)
          · unfold F_K_ahead F_K_ahead_0 F_K_ahead_22 F_K_ahead_27 F_K_ahead_55
            rw [if_pos (by decide)]
            simp only [K_within, K_isHanger, K_isKind, K_isSpot, K_isSheet, R_hasDeposit R.2.2.1, R_hasGirl R.2.2.1, R.kg0, R.kg1, R.kob, R.2.2.1.ob_, Option.bind_some, bI_0]
            rw [if_neg (fun z => z c1), if_neg (by decide), if_pos c2]
            simp only [K_within, K_isHanger, K_isKind, K_isSpot, K_isSheet, R_hasDeposit R.2.2.1, R_hasGirl R.2.2.1, R.kg0, R.kg1, R.kob, R.2.2.1.ob_, Option.bind_some, bI_0, K_finding R (i := 0) (x := 0) (by omega) rfl]
          · unfold F_M_ahead F_M_ahead_0 F_M_ahead_22 F_M_ahead_27 F_M_ahead_52 F_M_ahead_102
            rw [if_pos (by decide)]
            simp only [M_in, M_isHanger, M_isPlace, M_isDeposit M, M_isGirl M, M.ob_, M.gr0, Option.bind_some, bI_0]
            rw [if_neg (fun z => z c1), if_neg (by decide), if_pos c2]
            simp only [M_in, M_isHanger, M_isPlace, M_isDeposit M, M_isGirl M, M.ob_, M.gr0, Option.bind_some, bI_0, M_finds M (i := 0) (v := -1000001) (by omega) (by decide)]
        · refine SP_fd R G (i := 0) (r1 := (-1000001) - 0) (r2 := (-1000001)) ?_ (fun M => ?_) (by decide)
          · unfold F_K_ahead F_K_ahead_0 F_K_ahead_22 F_K_ahead_27 F_K_ahead_55
            rw [if_neg (by decide), if_pos (by decide)]
            simp only [K_within, K_isHanger, K_isKind, K_isSpot, K_isSheet, R_hasDeposit R.2.2.1, R_hasGirl R.2.2.1, R.kg0, R.kg1, R.kob, R.2.2.1.ob_, Option.bind_some, bI_0]
            rw [if_neg (fun z => z c1), if_neg (by decide), if_pos c2]
            simp only [K_within, K_isHanger, K_isKind, K_isSpot, K_isSheet, R_hasDeposit R.2.2.1, R_hasGirl R.2.2.1, R.kg0, R.kg1, R.kob, R.2.2.1.ob_, Option.bind_some, bI_0, K_finding R (i := 0) (x := 0) (by omega) rfl]
          · unfold F_M_ahead F_M_ahead_0 F_M_ahead_22 F_M_ahead_27 F_M_ahead_52 F_M_ahead_102
            rw [if_neg (by decide), if_pos (by decide)]
            simp only [M_in, M_isHanger, M_isPlace, M_isDeposit M, M_isGirl M, M.ob_, M.gr0, Option.bind_some, bI_0]
            rw [if_neg (fun z => z c1), if_neg (by decide), if_pos c2]
            simp only [M_in, M_isHanger, M_isPlace, M_isDeposit M, M_isGirl M, M.ob_, M.gr0, Option.bind_some, bI_0, M_finds M (i := 0) (v := -1000001) (by omega) (by decide)]
        · refine SP_fd R G (i := 0) (r1 := (-1000001) - 0) (r2 := (-1000001)) ?_ (fun M => ?_) (by decide)
          · unfold F_K_ahead F_K_ahead_0 F_K_ahead_22 F_K_ahead_27 F_K_ahead_55
            rw [if_neg (by decide), if_neg (by decide), if_pos (by decide)]
            simp only [K_within, K_isHanger, K_isKind, K_isSpot, K_isSheet, R_hasDeposit R.2.2.1, R_hasGirl R.2.2.1, R.kg0, R.kg1, R.kob, R.2.2.1.ob_, Option.bind_some, bI_0]
            rw [if_neg (fun z => z c1), if_neg (by decide), if_pos c2]
            simp only [K_within, K_isHanger, K_isKind, K_isSpot, K_isSheet, R_hasDeposit R.2.2.1, R_hasGirl R.2.2.1, R.kg0, R.kg1, R.kob, R.2.2.1.ob_, Option.bind_some, bI_0, K_finding R (i := 0) (x := 0) (by omega) rfl]
          · unfold F_M_ahead F_M_ahead_0 F_M_ahead_22 F_M_ahead_27 F_M_ahead_52 F_M_ahead_102
            rw [if_neg (by decide), if_neg (by decide), if_pos (by decide)]
            simp only [M_in, M_isHanger, M_isPlace, M_isDeposit M, M_isGirl M, M.ob_, M.gr0, Option.bind_some, bI_0]
            rw [if_neg (fun z => z c1), if_neg (by decide), if_pos c2]
            simp only [M_in, M_isHanger, M_isPlace, M_isDeposit M, M_isGirl M, M.ob_, M.gr0, Option.bind_some, bI_0, M_finds M (i := 0) (v := -1000001) (by omega) (by decide)]
        · refine SP_fd R G (i := 0) (r1 := (-1000001) - 0) (r2 := (-1000001)) ?_ (fun M => ?_) (by decide)
          · unfold F_K_ahead F_K_ahead_0 F_K_ahead_22 F_K_ahead_27 F_K_ahead_55
            rw [if_neg (by decide), if_neg (by decide), if_neg (by decide), if_pos (by decide)]
            simp only [K_within, K_isHanger, K_isKind, K_isSpot, K_isSheet, R_hasDeposit R.2.2.1, R_hasGirl R.2.2.1, R.kg0, R.kg1, R.kob, R.2.2.1.ob_, Option.bind_some, bI_0]
            rw [if_neg (fun z => z c1), if_neg (by decide), if_pos c2]
            simp only [K_within, K_isHanger, K_isKind, K_isSpot, K_isSheet, R_hasDeposit R.2.2.1, R_hasGirl R.2.2.1, R.kg0, R.kg1, R.kob, R.2.2.1.ob_, Option.bind_some, bI_0, K_finding R (i := 0) (x := 0) (by omega) rfl]
          · unfold F_M_ahead F_M_ahead_0 F_M_ahead_22 F_M_ahead_27 F_M_ahead_52 F_M_ahead_102
            rw [if_neg (by decide), if_neg (by decide), if_neg (by decide), if_pos (by decide)]
            simp only [M_in, M_isHanger, M_isPlace, M_isDeposit M, M_isGirl M, M.ob_, M.gr0, Option.bind_some, bI_0]
            rw [if_neg (fun z => z c1), if_neg (by decide), if_pos c2]
            simp only [M_in, M_isHanger, M_isPlace, M_isDeposit M, M_isGirl M, M.ob_, M.gr0, Option.bind_some, bI_0, M_finds M (i := 0) (v := -1000001) (by omega) (by decide)]
    · rcases c0 with rfl | rfl | rfl | rfl
      · refine SP_fd R G (i := 0) (r1 := (-1000001) - 0) (r2 := (-1000001)) ?_ (fun M => ?_) (by decide)
        · unfold F_K_ahead F_K_ahead_0 F_K_ahead_22 F_K_ahead_27 F_K_ahead_55
          rw [if_pos (by decide)]
          simp only [K_within, K_isHanger, K_isKind, K_isSpot, K_isSheet, R_hasDeposit R.2.2.1, R_hasGirl R.2.2.1, R.kg0, R.kg1, R.kob, R.2.2.1.ob_, Option.bind_some, bI_0]
          rw [if_pos c1]
          simp only [K_within, K_isHanger, K_isKind, K_isSpot, K_isSheet, R_hasDeposit R.2.2.1, R_hasGirl R.2.2.1, R.kg0, R.kg1, R.kob, R.2.2.1.ob_, Option.bind_some, bI_0, K_finding R (i := 0) (x := 0) (by omega) rfl]
        · unfold F_M_ahead F_M_ahead_0 F_M_ahead_22 F_M_ahead_27 F_M_ahead_52 F_M_ahead_102
          rw [if_pos (by decide)]
          simp only [M_in, M_isHanger, M_isPlace, M_isDeposit M, M_isGirl M, M.ob_, M.gr0, Option.bind_some, bI_0]
          rw [if_pos c1]
          simp only [M_in, M_isHanger, M_isPlace, M_isDeposit M, M_isGirl M, M.ob_, M.gr0, Option.bind_some, bI_0, M_finds M (i := 0) (v := -1000001) (by omega) (by decide)]
      · refine SP_fd R G (i := 0) (r1 := (-1000001) - 0) (r2 := (-1000001)) ?_ (fun M => ?_) (by decide)
        · unfold F_K_ahead F_K_ahead_0 F_K_ahead_22 F_K_ahead_27 F_K_ahead_55
          rw [if_neg (by decide), if_pos (by decide)]
          simp only [K_within, K_isHanger, K_isKind, K_isSpot, K_isSheet, R_hasDeposit R.2.2.1, R_hasGirl R.2.2.1, R.kg0, R.kg1, R.kob, R.2.2.1.ob_, Option.bind_some, bI_0]
          rw [if_pos c1]
          simp only [K_within, K_isHanger, K_isKind, K_isSpot, K_isSheet, R_hasDeposit R.2.2.1, R_hasGirl R.2.2.1, R.kg0, R.kg1, R.kob, R.2.2.1.ob_, Option.bind_some, bI_0, K_finding R (i := 0) (x := 0) (by omega) rfl]
        · unfold F_M_ahead F_M_ahead_0 F_M_ahead_22 F_M_ahead_27 F_M_ahead_52 F_M_ahead_102
          rw [if_neg (by decide), if_pos (by decide)]
          simp only [M_in, M_isHanger, M_isPlace, M_isDeposit M, M_isGirl M, M.ob_, M.gr0, Option.bind_some, bI_0]
          rw [if_pos c1]
          simp only [M_in, M_isHanger, M_isPlace, M_isDeposit M, M_isGirl M, M.ob_, M.gr0, Option.bind_some, bI_0, M_finds M (i := 0) (v := -1000001) (by omega) (by decide)]
      · refine SP_fd R G (i := 0) (r1 := (-1000001) - 0) (r2 := (-1000001)) ?_ (fun M => ?_) (by decide)
        · unfold F_K_ahead F_K_ahead_0 F_K_ahead_22 F_K_ahead_27 F_K_ahead_55
          rw [if_neg (by decide), if_neg (by decide), if_pos (by decide)]
          simp only [K_within, K_isHanger, K_isKind, K_isSpot, K_isSheet, R_hasDeposit R.2.2.1, R_hasGirl R.2.2.1, R.kg0, R.kg1, R.kob, R.2.2.1.ob_, Option.bind_some, bI_0]
          rw [if_pos c1]
          simp only [K_within, K_isHanger, K_isKind, K_isSpot, K_isSheet, R_hasDeposit R.2.2.1, R_hasGirl R.2.2.1, R.kg0, R.kg1, R.kob, R.2.2.1.ob_, Option.bind_some, bI_0, K_finding R (i := 0) (x := 0) (by omega) rfl]
        · unfold F_M_ahead F_M_ahead_0 F_M_ahead_22 F_M_ahead_27 F_M_ahead_52 F_M_ahead_102
          rw [if_neg (by decide), if_neg (by decide), if_pos (by decide)]
          simp only [M_in, M_isHanger, M_isPlace, M_isDeposit M, M_isGirl M, M.ob_, M.gr0, Option.bind_some, bI_0]
          rw [if_pos c1]
          simp only [M_in, M_isHanger, M_isPlace, M_isDeposit M, M_isGirl M, M.ob_, M.gr0, Option.bind_some, bI_0, M_finds M (i := 0) (v := -1000001) (by omega) (by decide)]
      · refine SP_fd R G (i := 0) (r1 := (-1000001) - 0) (r2 := (-1000001)) ?_ (fun M => ?_) (by decide)
        · unfold F_K_ahead F_K_ahead_0 F_K_ahead_22 F_K_ahead_27 F_K_ahead_55
          rw [if_neg (by decide), if_neg (by decide), if_neg (by decide), if_pos (by decide)]
          simp only [K_within, K_isHanger, K_isKind, K_isSpot, K_isSheet, R_hasDeposit R.2.2.1, R_hasGirl R.2.2.1, R.kg0, R.kg1, R.kob, R.2.2.1.ob_, Option.bind_some, bI_0]
          rw [if_pos c1]
          simp only [K_within, K_isHanger, K_isKind, K_isSpot, K_isSheet, R_hasDeposit R.2.2.1, R_hasGirl R.2.2.1, R.kg0, R.kg1, R.kob, R.2.2.1.ob_, Option.bind_some, bI_0, K_finding R (i := 0) (x := 0) (by omega) rfl]
        · unfold F_M_ahead F_M_ahead_0 F_M_ahead_22 F_M_ahead_27 F_M_ahead_52 F_M_ahead_102
          rw [if_neg (by decide), if_neg (by decide), if_neg (by decide), if_pos (by decide)]
          simp only [M_in, M_isHanger, M_isPlace, M_isDeposit M, M_isGirl M, M.ob_, M.gr0, Option.bind_some, bI_0]
          rw [if_pos c1]
          simp only [M_in, M_isHanger, M_isPlace, M_isDeposit M, M_isGirl M, M.ob_, M.gr0, Option.bind_some, bI_0, M_finds M (i := 0) (v := -1000001) (by omega) (by decide)]
  · by_cases c1 : 0 ≤ a1 ∧ a1 ≤ h 0 3 - 1
    · refine SP_fd R G (i := 0) (r1 := (-1000001) - 0) (r2 := (-1000001)) ?_ (fun M => ?_) (by decide)
      · unfold F_K_ahead F_K_ahead_0 F_K_ahead_22 F_K_ahead_27 F_K_ahead_55
        rw [if_neg (fun z => c0 (by rw [z]; decide)), if_neg (fun z => c0 (by rw [z]; decide)), if_neg (fun z => c0 (by rw [z]; decide)), if_neg (fun z => c0 (by rw [z]; decide))]
        simp only [K_within, K_isHanger, K_isKind, K_isSpot, K_isSheet, R_hasDeposit R.2.2.1, R_hasGirl R.2.2.1, R.kg0, R.kg1, R.kob, R.2.2.1.ob_, Option.bind_some, bI_0]
        rw [if_neg (fun z => z c1), if_pos (by decide)]
        simp only [K_within, K_isHanger, K_isKind, K_isSpot, K_isSheet, R_hasDeposit R.2.2.1, R_hasGirl R.2.2.1, R.kg0, R.kg1, R.kob, R.2.2.1.ob_, Option.bind_some, bI_0, K_finding R (i := 0) (x := 0) (by omega) rfl]
      · unfold F_M_ahead F_M_ahead_0 F_M_ahead_22 F_M_ahead_27 F_M_ahead_52 F_M_ahead_102
        rw [if_neg (fun z => c0 (by rw [z]; decide)), if_neg (fun z => c0 (by rw [z]; decide)), if_neg (fun z => c0 (by rw [z]; decide)), if_neg (fun z => c0 (by rw [z]; decide))]
        simp only [M_in, M_isHanger, M_isPlace, M_isDeposit M, M_isGirl M, M.ob_, M.gr0, Option.bind_some, bI_0]
        rw [if_neg (fun z => z c1), if_pos (by decide)]
        simp only [M_in, M_isHanger, M_isPlace, M_isDeposit M, M_isGirl M, M.ob_, M.gr0, Option.bind_some, bI_0, M_finds M (i := 0) (v := -1000001) (by omega) (by decide)]
    · refine SP_fd R G (i := 0) (r1 := (-1000001) - 0) (r2 := (-1000001)) ?_ (fun M => ?_) (by decide)
      · unfold F_K_ahead F_K_ahead_0 F_K_ahead_22 F_K_ahead_27 F_K_ahead_55
        rw [if_neg (fun z => c0 (by rw [z]; decide)), if_neg (fun z => c0 (by rw [z]; decide)), if_neg (fun z => c0 (by rw [z]; decide)), if_neg (fun z => c0 (by rw [z]; decide))]
        simp only [K_within, K_isHanger, K_isKind, K_isSpot, K_isSheet, R_hasDeposit R.2.2.1, R_hasGirl R.2.2.1, R.kg0, R.kg1, R.kob, R.2.2.1.ob_, Option.bind_some, bI_0]
        rw [if_pos c1]
        simp only [K_within, K_isHanger, K_isKind, K_isSpot, K_isSheet, R_hasDeposit R.2.2.1, R_hasGirl R.2.2.1, R.kg0, R.kg1, R.kob, R.2.2.1.ob_, Option.bind_some, bI_0, K_finding R (i := 0) (x := 0) (by omega) rfl]
      · unfold F_M_ahead F_M_ahead_0 F_M_ahead_22 F_M_ahead_27 F_M_ahead_52 F_M_ahead_102
        rw [if_neg (fun z => c0 (by rw [z]; decide)), if_neg (fun z => c0 (by rw [z]; decide)), if_neg (fun z => c0 (by rw [z]; decide)), if_neg (fun z => c0 (by rw [z]; decide))]
        simp only [M_in, M_isHanger, M_isPlace, M_isDeposit M, M_isGirl M, M.ob_, M.gr0, Option.bind_some, bI_0]
        rw [if_pos c1]
        simp only [M_in, M_isHanger, M_isPlace, M_isDeposit M, M_isGirl M, M.ob_, M.gr0, Option.bind_some, bI_0, M_finds M (i := 0) (v := -1000001) (by omega) (by decide)]
theorem R_gRow13 {w : A_W} {g : Nat → Int32} (hR : RC w 13 g) : F_R_girlRow 13 0 w = some (21, w) ∧ F_R_girlRow 13 2 w = some (23, w) := by
  unfold F_R_girlRow F_R_girlRow_0
  refine ⟨?_, ?_⟩
  · rw [if_pos (by decide)]; simp only [hR.b_gr12, Option.bind_some]
  · rw [if_neg (by decide), if_neg (by decide)]; simp only [hR.b_gr14, Option.bind_some]
theorem st13 : St13 Rel := by
  intro a1 a2 a3 w ⟨h, s, g2, g3, q, R, G⟩
  by_cases c0 : a2 = 0 ∨ a2 = 2
  · by_cases c1 : 0 ≤ a1 ∧ a1 ≤ h 0 4 - 1
    · by_cases c2 : 0 ≤ a3 ∧ a3 ≤ 100
      · have hc := c1
        rw [(Wf_grl G.1).2] at hc
        obtain ⟨d, hd, rfl⟩ := (in_iff (by have := Wf_grl G.1; omega)).mp hc
        have hd6 : d < 6 := by have := Wf_grl G.1; omega
        obtain ⟨n, -, hn, rfl⟩ := btw (m := 0) (n := 100) rfl rfl (by omega) (by omega) c2
        have R1 := R.trial (GON n (h 0))
        have hW := GON_Wf n _ G.1
        obtain ⟨k0, k2⟩ := R_gRow13 R1.2.2.2.1
        rcases c0 with rfl | rfl
        · refine SP_tr R G (t := GON n (h 0)) (r1 := GON n (h 0) (59 + 3 * d)) (r2 := GON n (h 0) (59 + 3 * d)) ?_ (fun M => ?_) rfl
          · unfold F_K_later F_K_later_0 F_K_later_9 F_K_later_14 F_K_later_42
            rw [if_pos (by decide)]
            simp only [K_within, K_isHanger, K_isKind, K_isSpot, K_isSheet, R_hasDeposit R.2.2.1, R_hasGirl R.2.2.1, R.kg0, R.kg1, R.kob, R.2.2.1.ob_, Option.bind_some, bI_0]
            rw [if_neg (fun z => z c1), if_neg (by decide), if_neg (fun z => z c2)]
            simp only [K_within, K_isHanger, K_isKind, K_isSpot, K_isSheet, R_hasDeposit R.2.2.1, R_hasGirl R.2.2.1, R.kg0, R.kg1, R.kob, R.2.2.1.ob_, Option.bind_some, bI_0, K_tryDays R G.1 (n := n) (x := nI n) (by omega) rfl, R1.kg1, R1.2.2.2.1.ob_, k0, R1.2.2.2.1.b_rd_dream hd6 rfl]
          · have m1 := M.set (a := 2) (by omega) (cpR (h 0) (h 2))
            have e0 : (hset h 2 (cpR (h 0) (h 2))) 0 = h 0 := hset_ne _ _ (by omega)
            have m2 := m1.set (a := 0) (by omega) (GON n (h 0))
            have hW2 : Wf ((hset (hset h 2 (cpR (h 0) (h 2))) 0 (GON n (h 0))) 0) := by rw [hset_self]; exact hW
            have mg := M_goesFor m1 (by rw [e0]; exact G.1) (n := n) (x := nI n) (by omega) rfl
            rw [e0] at mg
            have mb := M_back M (g := GON n (h 0)) (GON_Tl n _ G.1)
            unfold F_M_later F_M_later_0 F_M_later_17 F_M_later_27
            simp only [M_in, M_isHanger, M_isPlace, M_isDeposit M, M_isGirl M, M.ob_, M.gr0, Option.bind_some, bI_0]
            rw [if_neg (fun z => z c1), if_pos (by decide), if_neg (fun z => z c2)]
            simp only [M_in, M_isHanger, M_isPlace, M_isDeposit M, M_isGirl M, M.ob_, M.gr0, Option.bind_some, bI_0, M_thinks M, m1.ob_, mg, m2.ob_, M_her m2 hd6 (e := 0) (y := 0) (by omega) rfl rfl, hset_self, mb]
            rfl
        · refine SP_tr R G (t := GON n (h 0)) (r1 := GON n (h 0) (61 + 3 * d)) (r2 := GON n (h 0) (61 + 3 * d)) ?_ (fun M => ?_) rfl
          · unfold F_K_later F_K_later_0 F_K_later_9 F_K_later_14 F_K_later_42
            rw [if_neg (by decide), if_pos (by decide)]
            simp only [K_within, K_isHanger, K_isKind, K_isSpot, K_isSheet, R_hasDeposit R.2.2.1, R_hasGirl R.2.2.1, R.kg0, R.kg1, R.kob, R.2.2.1.ob_, Option.bind_some, bI_0]
            rw [if_neg (fun z => z c1), if_neg (by decide), if_neg (fun z => z c2)]
            simp only [K_within, K_isHanger, K_isKind, K_isSpot, K_isSheet, R_hasDeposit R.2.2.1, R_hasGirl R.2.2.1, R.kg0, R.kg1, R.kob, R.2.2.1.ob_, Option.bind_some, bI_0, K_tryDays R G.1 (n := n) (x := nI n) (by omega) rfl, R1.kg1, R1.2.2.2.1.ob_, k2, R1.2.2.2.1.b_rd_met hd6 rfl]
          · have m1 := M.set (a := 2) (by omega) (cpR (h 0) (h 2))
            have e0 : (hset h 2 (cpR (h 0) (h 2))) 0 = h 0 := hset_ne _ _ (by omega)
            have m2 := m1.set (a := 0) (by omega) (GON n (h 0))
            have hW2 : Wf ((hset (hset h 2 (cpR (h 0) (h 2))) 0 (GON n (h 0))) 0) := by rw [hset_self]; exact hW
            have mg := M_goesFor m1 (by rw [e0]; exact G.1) (n := n) (x := nI n) (by omega) rfl
            rw [e0] at mg
            have mb := M_back M (g := GON n (h 0)) (GON_Tl n _ G.1)
            unfold F_M_later F_M_later_0 F_M_later_17 F_M_later_27
            simp only [M_in, M_isHanger, M_isPlace, M_isDeposit M, M_isGirl M, M.ob_, M.gr0, Option.bind_some, bI_0]
            rw [if_neg (fun z => z c1), if_neg (by decide), if_pos (by decide), if_neg (fun z => z c2)]
            simp only [M_in, M_isHanger, M_isPlace, M_isDeposit M, M_isGirl M, M.ob_, M.gr0, Option.bind_some, bI_0, M_thinks M, m1.ob_, mg, m2.ob_, M_her m2 hd6 (e := 2) (y := 2) (by omega) rfl rfl, hset_self, mb]
            rw [show 59 + 3 * d + 2 = 61 + 3 * d by omega]
      · rcases c0 with rfl | rfl
        · refine SP_fd R G (i := 0) (r1 := (-1000001) - 0) (r2 := (-1000001)) ?_ (fun M => ?_) (by decide)
          · unfold F_K_later F_K_later_0 F_K_later_9 F_K_later_14 F_K_later_42
            rw [if_pos (by decide)]
            simp only [K_within, K_isHanger, K_isKind, K_isSpot, K_isSheet, R_hasDeposit R.2.2.1, R_hasGirl R.2.2.1, R.kg0, R.kg1, R.kob, R.2.2.1.ob_, Option.bind_some, bI_0]
            rw [if_neg (fun z => z c1), if_neg (by decide), if_pos c2]
            simp only [K_within, K_isHanger, K_isKind, K_isSpot, K_isSheet, R_hasDeposit R.2.2.1, R_hasGirl R.2.2.1, R.kg0, R.kg1, R.kob, R.2.2.1.ob_, Option.bind_some, bI_0, K_finding R (i := 0) (x := 0) (by omega) rfl]
          · unfold F_M_later F_M_later_0 F_M_later_17 F_M_later_27
            simp only [M_in, M_isHanger, M_isPlace, M_isDeposit M, M_isGirl M, M.ob_, M.gr0, Option.bind_some, bI_0]
            rw [if_neg (fun z => z c1), if_pos (by decide), if_pos c2]
            simp only [M_in, M_isHanger, M_isPlace, M_isDeposit M, M_isGirl M, M.ob_, M.gr0, Option.bind_some, bI_0, M_finds M (i := 0) (v := -1000001) (by omega) (by decide)]
        · refine SP_fd R G (i := 0) (r1 := (-1000001) - 0) (r2 := (-1000001)) ?_ (fun M => ?_) (by decide)
          · unfold F_K_later F_K_later_0 F_K_later_9 F_K_later_14 F_K_later_42
            rw [if_neg (by decide), if_pos (by decide)]
            simp only [K_within, K_isHanger, K_isKind, K_isSpot, K_isSheet, R_hasDeposit R.2.2.1, R_hasGirl R.2.2.1, R.kg0, R.kg1, R.kob, R.2.2.1.ob_, Option.bind_some, bI_0]
            rw [if_neg (fun z => z c1), if_neg (by decide), if_pos c2]
            simp only [K_within, K_isHanger, K_isKind, K_isSpot, K_isSheet, R_hasDeposit R.2.2.1, R_hasGirl R.2.2.1, R.kg0, R.kg1, R.kob, R.2.2.1.ob_, Option.bind_some, bI_0, K_finding R (i := 0) (x := 0) (by omega) rfl]
          · unfold F_M_later F_M_later_0 F_M_later_17 F_M_later_27
            simp only [M_in, M_isHanger, M_isPlace, M_isDeposit M, M_isGirl M, M.ob_, M.gr0, Option.bind_some, bI_0]
            rw [if_neg (fun z => z c1), if_neg (by decide), if_pos (by decide), if_pos c2]
            simp only [M_in, M_isHanger, M_isPlace, M_isDeposit M, M_isGirl M, M.ob_, M.gr0, Option.bind_some, bI_0, M_finds M (i := 0) (v := -1000001) (by omega) (by decide)]
    · rcases c0 with rfl | rfl
      · refine SP_fd R G (i := 0) (r1 := (-1000001) - 0) (r2 := (-1000001)) ?_ (fun M => ?_) (by decide)
        · unfold F_K_later F_K_later_0 F_K_later_9 F_K_later_14 F_K_later_42
          rw [if_pos (by decide)]
          simp only [K_within, K_isHanger, K_isKind, K_isSpot, K_isSheet, R_hasDeposit R.2.2.1, R_hasGirl R.2.2.1, R.kg0, R.kg1, R.kob, R.2.2.1.ob_, Option.bind_some, bI_0]
          rw [if_pos c1]
          simp only [K_within, K_isHanger, K_isKind, K_isSpot, K_isSheet, R_hasDeposit R.2.2.1, R_hasGirl R.2.2.1, R.kg0, R.kg1, R.kob, R.2.2.1.ob_, Option.bind_some, bI_0, K_finding R (i := 0) (x := 0) (by omega) rfl]
        · unfold F_M_later F_M_later_0 F_M_later_17 F_M_later_27
          simp only [M_in, M_isHanger, M_isPlace, M_isDeposit M, M_isGirl M, M.ob_, M.gr0, Option.bind_some, bI_0]
          rw [if_pos c1]
          simp only [M_in, M_isHanger, M_isPlace, M_isDeposit M, M_isGirl M, M.ob_, M.gr0, Option.bind_some, bI_0, M_finds M (i := 0) (v := -1000001) (by omega) (by decide)]
      · refine SP_fd R G (i := 0) (r1 := (-1000001) - 0) (r2 := (-1000001)) ?_ (fun M => ?_) (by decide)
        · unfold F_K_later F_K_later_0 F_K_later_9 F_K_later_14 F_K_later_42
          rw [if_neg (by decide), if_pos (by decide)]
          simp only [K_within, K_isHanger, K_isKind, K_isSpot, K_isSheet, R_hasDeposit R.2.2.1, R_hasGirl R.2.2.1, R.kg0, R.kg1, R.kob, R.2.2.1.ob_, Option.bind_some, bI_0]
          rw [if_pos c1]
          simp only [K_within, K_isHanger, K_isKind, K_isSpot, K_isSheet, R_hasDeposit R.2.2.1, R_hasGirl R.2.2.1, R.kg0, R.kg1, R.kob, R.2.2.1.ob_, Option.bind_some, bI_0, K_finding R (i := 0) (x := 0) (by omega) rfl]
        · unfold F_M_later F_M_later_0 F_M_later_17 F_M_later_27
          simp only [M_in, M_isHanger, M_isPlace, M_isDeposit M, M_isGirl M, M.ob_, M.gr0, Option.bind_some, bI_0]
          rw [if_pos c1]
          simp only [M_in, M_isHanger, M_isPlace, M_isDeposit M, M_isGirl M, M.ob_, M.gr0, Option.bind_some, bI_0, M_finds M (i := 0) (v := -1000001) (by omega) (by decide)]
  · by_cases c1 : 0 ≤ a1 ∧ a1 ≤ h 0 4 - 1
    · refine SP_fd R G (i := 0) (r1 := (-1000001) - 0) (r2 := (-1000001)) ?_ (fun M => ?_) (by decide)
      · unfold F_K_later F_K_later_0 F_K_later_9 F_K_later_14 F_K_later_42
        rw [if_neg (fun z => c0 (by rw [z]; decide)), if_neg (fun z => c0 (by rw [z]; decide))]
        simp only [K_within, K_isHanger, K_isKind, K_isSpot, K_isSheet, R_hasDeposit R.2.2.1, R_hasGirl R.2.2.1, R.kg0, R.kg1, R.kob, R.2.2.1.ob_, Option.bind_some, bI_0]
        rw [if_neg (fun z => z c1), if_pos (by decide)]
        simp only [K_within, K_isHanger, K_isKind, K_isSpot, K_isSheet, R_hasDeposit R.2.2.1, R_hasGirl R.2.2.1, R.kg0, R.kg1, R.kob, R.2.2.1.ob_, Option.bind_some, bI_0, K_finding R (i := 0) (x := 0) (by omega) rfl]
      · unfold F_M_later F_M_later_0 F_M_later_17 F_M_later_27
        simp only [M_in, M_isHanger, M_isPlace, M_isDeposit M, M_isGirl M, M.ob_, M.gr0, Option.bind_some, bI_0]
        rw [if_neg (fun z => z c1), if_neg (fun z => c0 (by rw [z]; decide)), if_neg (fun z => c0 (by rw [z]; decide))]
        simp only [M_in, M_isHanger, M_isPlace, M_isDeposit M, M_isGirl M, M.ob_, M.gr0, Option.bind_some, bI_0, M_finds M (i := 0) (v := -1000001) (by omega) (by decide)]
    · refine SP_fd R G (i := 0) (r1 := (-1000001) - 0) (r2 := (-1000001)) ?_ (fun M => ?_) (by decide)
      · unfold F_K_later F_K_later_0 F_K_later_9 F_K_later_14 F_K_later_42
        rw [if_neg (fun z => c0 (by rw [z]; decide)), if_neg (fun z => c0 (by rw [z]; decide))]
        simp only [K_within, K_isHanger, K_isKind, K_isSpot, K_isSheet, R_hasDeposit R.2.2.1, R_hasGirl R.2.2.1, R.kg0, R.kg1, R.kob, R.2.2.1.ob_, Option.bind_some, bI_0]
        rw [if_pos c1]
        simp only [K_within, K_isHanger, K_isKind, K_isSpot, K_isSheet, R_hasDeposit R.2.2.1, R_hasGirl R.2.2.1, R.kg0, R.kg1, R.kob, R.2.2.1.ob_, Option.bind_some, bI_0, K_finding R (i := 0) (x := 0) (by omega) rfl]
      · unfold F_M_later F_M_later_0 F_M_later_17 F_M_later_27
        simp only [M_in, M_isHanger, M_isPlace, M_isDeposit M, M_isGirl M, M.ob_, M.gr0, Option.bind_some, bI_0]
        rw [if_pos c1]
        simp only [M_in, M_isHanger, M_isPlace, M_isDeposit M, M_isGirl M, M.ob_, M.gr0, Option.bind_some, bI_0, M_finds M (i := 0) (v := -1000001) (by omega) (by decide)]
