/-! TOLD LIGHT -/
def td (c : Nat → Int32) (i : Nat) : Nat → Nat → (Nat → Int32) → Bool
  | 0, _, _ => true
  | k + 1, d, f => if c (40 * i + d) = -1 ∨ c (40 * i + d) = lgt f (nI 0) then td c i k (d + 1) (GOES f) else false
def tdI (b : Bool) : Int32 := if b then 1 else 0
theorem bz_td (b : Bool) : bz (tdI b) = some (tdI b) := by cases b <;> decide
section TOL
variable {h : Nat → Nat → Int32} {s : Nat → Int32} {g3 q : Nat → Int32}
theorem K_told_loop {i n : Nat} (hi : i < 4) (hn : n ≤ 8) : ∀ (m k d : Nat) (w : A_W) (g2 : Nat → Int32) (x : Int32), RelX w h s g2 g3 q → Wf g2 → x = nI d → d + k = n → k < m → ∃ t, F_K_trialIsAsTold_12 m 0 (41 + 2 * i) (nI n) x w = some (tdI (td (h 6) i k d g2), rW w 13 t) := by
  intro m
  induction m with
  | zero => intro k d w g2 x _ _ _ _ hk; exact absurd hk (by omega)
  | succ m ih =>
    intro k d w g2 x R hf hx hk hm
    rw [F_K_trialIsAsTold_12, hx]
    cases k with
    | zero =>
      rw [if_pos (nI_le (by omega) (by omega)), bz1]
      exact ⟨g2, by rw [R.2.2.2.1.rW_id]; rfl⟩
    | succ k =>
      rw [if_neg (fun z => by rw [nI_leI (by omega) (by omega)] at z; omega)]
      unfold F_K_trialIsAsTold_46
      have hp := R_passDays R.2.2.2.1 hf (n := 1) (x := 1) (by omega) rfl
      have R1 := R.trial (GON 1 g2)
      have hl := R_lightAt R.2.2.2.1 hf (hh := 0) (x := 0) (by omega) rfl
      simp only [R.2.1.s2 hi, R.2.1.srd hi (k := d) (by omega) rfl, Option.bind_some, R.kg1, R.2.2.2.1.ob_, hp, hl]
      obtain ⟨t, ht⟩ := ih k (d + 1) _ _ (nI d + 1) R1 (GON_Wf 1 _ hf) (nI_1 d) (by omega) (by omega)
      rw [rW_rW] at ht
      rw [td]
      by_cases c1 : h 6 (40 * i + d) = -1
      · rw [if_pos c1, if_pos (Or.inl c1)]; exact ⟨t, ht⟩
      · rw [if_neg c1]
        by_cases c2 : h 6 (40 * i + d) = lgt g2 (nI 0)
        · rw [if_pos c2, if_pos (Or.inr c2)]; exact ⟨t, ht⟩
        · rw [if_neg c2, if_neg (fun z => z.elim c1 c2), bz0]
          exact ⟨g2, by rw [R.2.2.2.1.rW_id]; rfl⟩
theorem K_trialIsAsTold {w : A_W} {g2 : Nat → Int32} {i z : Nat} (hi : i < 4) (hz : z ≤ 40) (ez : h 5 i = nI z) (R : RelX w h s g2 g3 q) (hf : Wf g2) : ∃ t, F_K_trialIsAsTold 0 (41 + 2 * i) w = some (tdI (td (h 6) i (min z 8) 0 g2), rW w 13 t) := by
  unfold F_K_trialIsAsTold F_K_trialIsAsTold_0
  obtain ⟨t, ht⟩ := K_told_loop (n := min z 8) hi (by omega) FU (min z 8) 0 w g2 0 R hf rfl (by omega) (by unfold FU; omega)
  refine ⟨t, ?_⟩
  rw [R.2.1.s1 hi, Option.bind_some, jmin_n (y := 8) (b := 8) ez rfl (by omega) (by omega), ht]
theorem M_told_69 {w : A_W} (hM : MM w h s) {f : Nat → Int32} (ht : Tl (h 0) f) (b : Bool) : F_M_isTold_69 49 (tdI b) (mW (mW w 2 (cpR (h 0) (h 2))) 0 f) = some (tdI b, mW w 2 (cpR (h 0) (h 2))) := by
  have h1 := hM.set (a := 2) (by omega) (cpR (h 0) (h 2))
  have h2 := h1.set (a := 0) (by omega) f
  unfold F_M_isTold_69
  rw [h2.ob_, Option.bind_some, M_back hM ht, Option.bind_some, bz_td]; rfl
theorem M_told_no {w : A_W} (hM : MM w h s) {f : Nat → Int32} (ht : Tl (h 0) f) {i : Nat} (hi : i < 4) (m : Nat) (x : Int32) : F_M_isTold_4 (m + 1) 49 (nI i) 0 x (mW (mW w 2 (cpR (h 0) (h 2))) 0 f) = some (0, mW w 2 (cpR (h 0) (h 2))) := by
  have h1 := hM.set (a := 2) (by omega) (cpR (h 0) (h 2))
  have h2 := h1.set (a := 0) (by omega) f
  rw [F_M_isTold_4]
  simp only [h2.gr6, Option.bind_some, h2.rd5 hi rfl]
  have e := M_told_69 hM ht false
  have e : F_M_isTold_69 49 0 (mW (mW w 2 (cpR (h 0) (h 2))) 0 f) = some (0, mW w 2 (cpR (h 0) (h 2))) := e
  split
  · exact e
  · split
    · exact e
    · rw [if_pos trivial]; exact e
theorem M_told_loop {w : A_W} (hM : MM w h s) {i z : Nat} (hi : i < 4) (hz : z ≤ 40) (ez : h 5 i = nI z) : ∀ (m k d : Nat) (f : Nat → Int32) (x : Int32), Wf f → Tl (h 0) f → x = nI d → d + k = min z 8 → k + 1 < m → F_M_isTold_4 m 49 (nI i) 1 x (mW (mW w 2 (cpR (h 0) (h 2))) 0 f) = some (tdI (td (h 6) i k d f), mW w 2 (cpR (h 0) (h 2))) := by
  intro m
  induction m with
  | zero => intro k d f x _ _ _ _ hk; exact absurd hk (by omega)
  | succ m ih =>
    intro k d f x hf ht hx hk hm
    have h1 := hM.set (a := 2) (by omega) (cpR (h 0) (h 2))
    have h2 := h1.set (a := 0) (by omega) f
    have e5 : (hset (hset h 2 (cpR (h 0) (h 2))) 0 f) 5 = h 5 := by rw [hset_ne _ _ (by omega), hset_ne _ _ (by omega)]
    have e6 : (hset (hset h 2 (cpR (h 0) (h 2))) 0 f) 6 = h 6 := by rw [hset_ne _ _ (by omega), hset_ne _ _ (by omega)]
    rw [F_M_isTold_4, hx]
    simp only [h2.gr6, Option.bind_some, h2.rd5 hi rfl, e5, ez]
    cases k with
    | zero =>
      have e := M_told_69 hM ht true
      have e : F_M_isTold_69 49 1 (mW (mW w 2 (cpR (h 0) (h 2))) 0 f) = some (1, mW w 2 (cpR (h 0) (h 2))) := e
      by_cases c2 : z ≤ d
      · rw [if_pos (nI_le c2 (by omega))]; exact e
      · rw [if_neg (fun y => by rw [nI_leI (by omega) (by omega)] at y; omega), if_pos (show (8 : Int32) ≤ nI d from nI_le (a := 8) (by omega) (by omega))]; exact e
    | succ k =>
      rw [if_neg (fun y => by rw [nI_leI (by omega) (by omega)] at y; omega), if_neg (show ¬ (8 : Int32) ≤ nI d from nI_ge (b := 8) (by omega) (by omega)), if_neg (by decide)]
      unfold F_M_isTold_53 F_M_isTold_58
      have mg := M_goes h2 (by rw [hset_self]; exact hf)
      rw [hset_self, mW_mW] at mg
      have ml := M_lightAt h2 (by rw [hset_self]; exact hf) 0
      rw [hset_self] at ml
      have ml : F_M_lightAt 49 0 (mW (mW w 2 (cpR (h 0) (h 2))) 0 f) = some (lgt f (nI 0), mW (mW w 2 (cpR (h 0) (h 2))) 0 f) := ml
      simp only [h2.gr7, Option.bind_some, n40, h2.rd6 (k := 40 * i + d) (by omega) rfl, e6, h2.ob_, mg, ml]
      have hy := ih k (d + 1) (GOES f) (nI d + 1) (GOES_Wf hf) (ht.tr (GOES_Tl hf)) (nI_1 d) (by omega) (by omega)
      obtain ⟨m', rfl⟩ : ∃ m', m = m' + 1 := ⟨m - 1, by omega⟩
      have hn := M_told_no hM (ht.tr (GOES_Tl hf)) hi m' (nI d + 1)
      rw [td]
      by_cases c1 : h 6 (40 * i + d) = -1
      · rw [if_pos c1, if_pos (Or.inl c1)]; exact hy
      · rw [if_neg c1]
        by_cases c2 : h 6 (40 * i + d) = lgt f (nI 0)
        · rw [if_pos c2, if_pos (Or.inr c2)]; exact hy
        · rw [if_neg c2, if_neg (fun z => z.elim c1 c2)]; exact hn
theorem M_isTold {w : A_W} (hM : MM w h s) {i z : Nat} (hi : i < 4) (hz : z ≤ 40) (ez : h 5 i = nI z) {f : Nat → Int32} (hf : Wf f) (ht : Tl (h 0) f) : F_M_isTold 49 (nI i) (mW (mW w 2 (cpR (h 0) (h 2))) 0 f) = some (tdI (td (h 6) i (min z 8) 0 f), mW w 2 (cpR (h 0) (h 2))) := by
  unfold F_M_isTold F_M_isTold_0
  exact M_told_loop hM hi hz ez FU (min z 8) 0 f 0 hf ht rfl (by omega) (by unfold FU; omega)
def seN (c : Nat → Int32) (i n : Nat) (V : Nat → Nat → Int32) : Nat → Nat → Int32 → Int32
  | 0, _, a => a
  | k + 1, j, a => seN c i n V k (j + 1) (if td c i n 0 (V j) then a ||| (1 <<< (nI j &&& 31)) else a)
theorem td0 (b : Bool) : (tdI b = 0) = (b = false) := by cases b <;> simp [tdI]
theorem K_set_loop {x1 x2 : Int32} {N i z : Nat} (hi : i < 4) (hz : z ≤ 40) (ez : h 5 i = nI z) (hN : N ≤ 100) {V : Nat → Nat → Int32} (hV : ∀ i, i < N → Wf (V i)) (hv : ∀ (i : Nat) (w : A_W), i < N → RC w 13 (h 0) → F_R_vary 13 x1 x2 (nI i) w = some (rW w 13 (V i))) : ∀ (m k j : Nat) (w : A_W) (g2 : Nat → Int32) (a x : Int32), RelX w h s g2 g3 q → x = nI j → j + k = N → k < m → ∃ t, F_K_setAsTold_20 m 0 x1 (41 + 2 * i) x2 (nI N) a x w = some (seN (h 6) i (min z 8) V k j a, rW w 13 t) := by
  intro m
  induction m with
  | zero => intro k j w g2 a x _ _ _ hk; exact absurd hk (by omega)
  | succ m ih =>
    intro k j w g2 a x R hx hk hm
    rw [F_K_setAsTold_20, hx]
    cases k with
    | zero =>
      rw [if_pos (nI_le (by omega) (by omega))]
      exact ⟨g2, by rw [R.2.2.2.1.rW_id]; rfl⟩
    | succ k =>
      rw [if_neg (fun z => by rw [nI_leI (by omega) (by omega)] at z; omega)]
      have R1 := R.trial (h 0)
      have R2 := R.trial (V j)
      have hj : j < N := by omega
      have hv1 := hv j _ hj R1.2.2.2.1
      rw [rW_rW] at hv1
      obtain ⟨t, ht⟩ := K_trialIsAsTold hi hz ez R2 (hV j hj)
      rw [rW_rW] at ht
      simp only [R.kg1, R.kg0, Option.bind_some, R.2.2.2.1.ob_, R_become R.2.2.2.1 R.2.2.1 (by omega), R1.kg1, R1.2.2.2.1.ob_, hv1, R2.kob, ht, td0]
      unfold F_K_setAsTold_66
      rw [seN]
      have R3 := R.trial t
      by_cases c : td (h 6) i (min z 8) 0 (V j) = false
      · rw [if_pos c, if_neg (by rw [c]; decide)]
        obtain ⟨u, hu⟩ := ih k (j + 1) _ _ a (nI j + 1) R3 (nI_1 j) (by omega) (by omega)
        exact ⟨u, by rw [hu, rW_rW]⟩
      · rw [if_neg c, if_pos (by simpa using c)]
        obtain ⟨u, hu⟩ := ih k (j + 1) _ _ (a ||| (1 <<< (nI j &&& 31))) (nI j + 1) R3 (nI_1 j) (by omega) (by omega)
        exact ⟨u, by rw [hu, rW_rW]⟩
theorem M_set_loop {w : A_W} (hM : MM w h s) {i z p N : Nat} (hi : i < 4) (hz : z ≤ 40) (ez : h 5 i = nI z) (hp : p < 87) (hN : N ≤ 100) {V : Nat → Nat → Int32} (hV : ∀ i, i < N → Wf (V i) ∧ V i = upd (h 0) p (nI i)) : ∀ (m k j : Nat) (a x : Int32), x = nI j → j + k = N → k < m → F_M_allowed_10 m 49 (nI i) (nI p) (nI N) a x (mW w 2 (cpR (h 0) (h 2))) = some (seN (h 6) i (min z 8) V k j a, mW w 2 (cpR (h 0) (h 2))) := by
  intro m
  induction m with
  | zero => intro k j a x _ _ hk; exact absurd hk (by omega)
  | succ m ih =>
    intro k j a x hx hk hm
    have h1 := hM.set (a := 2) (by omega) (cpR (h 0) (h 2))
    rw [F_M_allowed_10, hx]
    cases k with
    | zero =>
      rw [if_pos (nI_le (by omega) (by omega))]
      rfl
    | succ k =>
      rw [if_neg (fun z => by rw [nI_leI (by omega) (by omega)] at z; omega)]
      obtain ⟨hw, he⟩ := hV j (by omega)
      have e0 : (hset h 2 (cpR (h 0) (h 2))) 0 = h 0 := hset_ne _ _ (by omega)
      have h2 := h1.set (a := 0) (by omega) (V j)
      have mb := M_isTold hM hi hz ez hw (by rw [he]; exact (Tl.rf _).up hp _)
      simp only [h1.gr0, Option.bind_some, h1.wr0 hp rfl, e0, ← he, h2.ob_, mb, td0]
      unfold F_M_allowed_42
      rw [seN]
      by_cases c : td (h 6) i (min z 8) 0 (V j) = false
      · rw [if_pos c, if_neg (by rw [c]; decide), Int32.or_zero]
        exact ih k (j + 1) a (nI j + 1) (nI_1 j) (by omega) (by omega)
      · rw [if_neg c, if_pos (by simpa using c)]
        exact ih k (j + 1) _ (nI j + 1) (nI_1 j) (by omega) (by omega)
theorem M_allowed {w : A_W} (hM : MM w h s) {i z p N : Nat} (hi : i < 4) (hz : z ≤ 40) (ez : h 5 i = nI z) (hp : p < 87) (hN : N ≤ 100) {V : Nat → Nat → Int32} (hV : ∀ i, i < N → Wf (V i) ∧ V i = upd (h 0) p (nI i)) {x y : Int32} (hx : x = nI p) (hy : y = nI N) : F_M_allowed 49 (nI i) x y w = some (seN (h 6) i (min z 8) V N 0 0, mW w 2 (cpR (h 0) (h 2))) := by
  subst hx; subst hy
  unfold F_M_allowed F_M_allowed_0
  simp only [hM.ob_, Option.bind_some, M_thinks hM]
  exact M_set_loop hM hi hz ez hp hN hV FU N 0 0 0 rfl (by omega) (by unfold FU; omega)
theorem K_refused {w : A_W} {g2 : Nat → Int32} (R : RelX w h s g2 g3 q) (x y : Int32) : F_K_refusedAsTold 0 x y w = if 0 ≤ x ∧ x ≤ 3 then (if h 4 x.toNatClampNeg = 0 then some (5, w) else if 0 ≤ y ∧ y ≤ h 0 3 - 1 then some (-1, w) else some (0, w)) else some (0, w) := by
  unfold F_K_refusedAsTold F_K_refusedAsTold_0 F_K_refusedAsTold_39
  simp only [K_within, K_isHanger, K_isKind, K_isSpot, K_isSheet, R_hasDeposit R.2.2.1, R_hasGirl R.2.2.1, R.kg0, R.kg1, R.kob, R.2.2.1.ob_, Option.bind_some, bI_0]
  by_cases c : 0 ≤ x ∧ x ≤ 3
  · rw [if_neg (fun z => z c), if_pos c]
    obtain ⟨i, -, hi3, rfl⟩ := btw (m := 0) (n := 3) rfl rfl (by omega) (by omega) c
    have hi : i < 4 := by omega
    simp only [K_within, K_isHanger, K_isKind, K_isSpot, K_isSheet, R_hasDeposit R.2.2.1, R_hasGirl R.2.2.1, R.kg0, R.kg1, R.kob, R.2.2.1.ob_, Option.bind_some, bI_0, R.2.1.g5, R.2.1.ra_ hi rfl, R.2.1.sob hi, R.2.1.miss hi]
    rw [nI_clamp (by omega)]
    by_cases c2 : h 4 i = 0
    · rw [if_neg (fun z => z c2), if_pos c2]
    · rw [if_pos c2, if_neg c2]
      by_cases c3 : 0 ≤ y ∧ y ≤ h 0 3 - 1
      · rw [if_neg (fun z => z c3), if_pos c3]
      · rw [if_pos c3, if_neg c3]
  · rw [if_pos c, if_neg c]
theorem M_notAsked {w : A_W} (M : MM w h s) (x y : Int32) : F_M_notAsked 49 x y w = if 0 ≤ x ∧ x ≤ 3 then (if h 4 x.toNatClampNeg = 0 then some (-1000006, w) else if 0 ≤ y ∧ y ≤ h 0 3 - 1 then some (0, w) else some (-1000001, w)) else some (-1000001, w) := by
  unfold F_M_notAsked F_M_notAsked_0 F_M_notAsked_23 F_M_notAsked_24
  simp only [M_in, M_isHanger, M_isPlace, M_isDeposit M, M_isGirl M, M.ob_, M.gr0, Option.bind_some, bI_0, M_notThere M]
  by_cases c : 0 ≤ x ∧ x ≤ 3
  · rw [if_pos c, if_pos c, Option.bind_some]
    by_cases c2 : h 4 x.toNatClampNeg = 0
    · rw [if_pos c2, if_pos c2]; rfl
    · rw [if_neg c2, if_neg c2]
      simp only [M_in, M_isHanger, M_isPlace, M_isDeposit M, M_isGirl M, M.ob_, M.gr0, Option.bind_some, bI_0]
      by_cases c3 : 0 ≤ y ∧ y ≤ h 0 3 - 1
      · rw [if_pos trivial, if_neg (fun z => z c3), if_pos c3]
      · rw [if_pos trivial, if_pos c3, if_neg c3]
  · rw [if_neg c, if_neg c]; rfl
end TOL
theorem st23 : St23 Rel := by
  intro a1 a2 w ⟨h, s, g2, g3, q, R, G⟩
  by_cases c1 : 0 ≤ a1 ∧ a1 ≤ 3
  · have c1' := c1
    obtain ⟨i, -, hi3, rfl⟩ := btw (m := 0) (n := 3) rfl rfl (by omega) (by omega) c1'
    have hi : i < 4 := by omega
    by_cases c2 : h 4 i = 0
    · refine SP_fd R G (i := 5) (r1 := (-1000001) - 5) (r2 := (-1000006)) ?_ (fun M => ?_) (by decide)
      · unfold F_K_fits F_K_fits_0 F_K_fits_32
        simp only [K_within, K_isHanger, K_isKind, K_isSpot, K_isSheet, R_hasDeposit R.2.2.1, R_hasGirl R.2.2.1, R.kg0, R.kg1, R.kob, R.2.2.1.ob_, Option.bind_some, bI_0, K_refused R]
        rw [if_pos c1, nI_clamp (by omega), if_pos c2, Option.bind_some]
        dsimp only
        rw [if_neg (by decide)]
        simp only [K_within, K_isHanger, K_isKind, K_isSpot, K_isSheet, R_hasDeposit R.2.2.1, R_hasGirl R.2.2.1, R.kg0, R.kg1, R.kob, R.2.2.1.ob_, Option.bind_some, bI_0, K_finding R (i := 5) (x := 5) (by omega) rfl]
      · unfold F_M_fits F_M_fits_0 F_M_fits_35
        simp only [M_in, M_isHanger, M_isPlace, M_isDeposit M, M_isGirl M, M.ob_, M.gr0, Option.bind_some, bI_0, M_notAsked M]
        rw [if_pos c1, nI_clamp (by omega), if_pos c2, Option.bind_some]
        dsimp only
        rw [if_neg (by decide)]
        simp only [M_in, M_isHanger, M_isPlace, M_isDeposit M, M_isGirl M, M.ob_, M.gr0, Option.bind_some, bI_0, M_finds M (i := 5) (v := (-1000006)) (by omega) (by decide)]
    · by_cases c3 : 0 ≤ a2 ∧ a2 ≤ h 0 3 - 1
      · have hc := c3
        rw [(Wf_dep G.1).2] at hc
        obtain ⟨d, hd, rfl⟩ := (in_iff (by have := Wf_dep G.1; omega)).mp hc
        have hd8 : d < 8 := by have := Wf_dep G.1; omega
        obtain ⟨z, hz, ez⟩ := (G.2.2.2.1 i hi).2.1
        have hV : ∀ i, i < 16 → Wf ((fun j => upd (h 0) (12 + 6 * d) (nI j)) i) := by
          intro i hi
          dsimp only
          refine Wf_upd G.1 (by omega) (by omega) (fun _ => ?_) (fun _ _ => by omega)
          have hb := hiB_it d hd8 1 (by omega)
          rw [show 11 + 6 * d + 1 = 12 + 6 * d by omega] at hb
          rw [hb, nI_toInt (by omega)]
          show 0 ≤ (i : Int) ∧ (i : Int) ≤ 15
          omega
        have hv : ∀ (i : Nat) (w : A_W), i < 16 → RC w 13 (h 0) → F_R_vary 13 0 (nI d) (nI i) w = some (rW w 13 ((fun j => upd (h 0) (12 + 6 * d) (nI j)) i)) := by
          intro i w hi hR
          unfold F_R_vary F_R_vary_0 F_R_vary_67
          rw [if_pos (by decide)]
          simp only [hR.b_gr7, Option.bind_some, hR.b_wr_hanger hd8 rfl]
        obtain ⟨t, ht⟩ := K_set_loop (N := 16) hi hz ez (by omega) hV hv FU 16 0 w g2 0 0 R rfl (by omega) (by unfold FU; omega)
        refine SP_tr R G (t := t) (r1 := seN (h 6) i (min z 8) (fun j => upd (h 0) (12 + 6 * d) (nI j)) 16 0 0) (r2 := seN (h 6) i (min z 8) (fun j => upd (h 0) (12 + 6 * d) (nI j)) 16 0 0) ?_ (fun M => ?_) rfl
        · unfold F_K_fits F_K_fits_0 F_K_fits_32 F_K_setAsTold F_K_setAsTold_0 F_K_setAsTold_12
          simp only [K_within, K_isHanger, K_isKind, K_isSpot, K_isSheet, R_hasDeposit R.2.2.1, R_hasGirl R.2.2.1, R.kg0, R.kg1, R.kob, R.2.2.1.ob_, Option.bind_some, bI_0, K_refused R]
          rw [if_pos c1, nI_clamp (by omega), if_neg c2, if_pos c3, Option.bind_some, if_pos rfl]
          have ht2 : F_K_setAsTold_20 FU 0 0 (41 + 2 * i) (nI d) 16 0 0 w = _ := ht
          simp only [K_within, K_isHanger, K_isKind, K_isSpot, K_isSheet, R_hasDeposit R.2.2.1, R_hasGirl R.2.2.1, R.kg0, R.kg1, R.kob, R.2.2.1.ob_, Option.bind_some, bI_0, R.2.1.g5, R.2.1.ra_ hi rfl]
          rw [if_neg (by decide), ht2]
          rfl
        · have mb := M_allowed M (p := 12 + 6 * d) (N := 16) hi hz ez (by omega) (by omega) (V := fun j => upd (h 0) (12 + 6 * d) (nI j)) (fun i hi => ⟨hV i hi, rfl⟩) (x := (11 + (6 * nI d)) + 1) (y := 16) ((n11 (d := d) (e := 1) rfl rfl).trans (by congr 1; omega)) rfl
          unfold F_M_fits F_M_fits_0 F_M_fits_35
          simp only [M_in, M_isHanger, M_isPlace, M_isDeposit M, M_isGirl M, M.ob_, M.gr0, Option.bind_some, bI_0, M_notAsked M]
          rw [if_pos c1, nI_clamp (by omega), if_neg c2, if_pos c3, Option.bind_some, if_pos rfl]
          simp only [M_in, M_isHanger, M_isPlace, M_isDeposit M, M_isGirl M, M.ob_, M.gr0, Option.bind_some, bI_0, mb]
      · refine SP_fd R G (i := 0) (r1 := (-1000001) - 0) (r2 := (-1000001)) ?_ (fun M => ?_) (by decide)
        · unfold F_K_fits F_K_fits_0 F_K_fits_32
          simp only [K_within, K_isHanger, K_isKind, K_isSpot, K_isSheet, R_hasDeposit R.2.2.1, R_hasGirl R.2.2.1, R.kg0, R.kg1, R.kob, R.2.2.1.ob_, Option.bind_some, bI_0, K_refused R]
          rw [if_pos c1, nI_clamp (by omega), if_neg c2, if_neg c3, Option.bind_some]
          dsimp only
          rw [if_neg (by decide)]
          simp only [K_within, K_isHanger, K_isKind, K_isSpot, K_isSheet, R_hasDeposit R.2.2.1, R_hasGirl R.2.2.1, R.kg0, R.kg1, R.kob, R.2.2.1.ob_, Option.bind_some, bI_0, K_finding R (i := 0) (x := 0) (by omega) rfl]
        · unfold F_M_fits F_M_fits_0 F_M_fits_35
          simp only [M_in, M_isHanger, M_isPlace, M_isDeposit M, M_isGirl M, M.ob_, M.gr0, Option.bind_some, bI_0, M_notAsked M]
          rw [if_pos c1, nI_clamp (by omega), if_neg c2, if_neg c3, Option.bind_some]
          dsimp only
          rw [if_neg (by decide)]
          simp only [M_in, M_isHanger, M_isPlace, M_isDeposit M, M_isGirl M, M.ob_, M.gr0, Option.bind_some, bI_0, M_finds M (i := 0) (v := (-1000001)) (by omega) (by decide)]
  · refine SP_fd R G (i := 0) (r1 := (-1000001) - 0) (r2 := (-1000001)) ?_ (fun M => ?_) (by decide)
    · unfold F_K_fits F_K_fits_0 F_K_fits_32
      simp only [K_within, K_isHanger, K_isKind, K_isSpot, K_isSheet, R_hasDeposit R.2.2.1, R_hasGirl R.2.2.1, R.kg0, R.kg1, R.kob, R.2.2.1.ob_, Option.bind_some, bI_0, K_refused R]
      rw [if_neg c1, Option.bind_some]
      dsimp only
      rw [if_neg (by decide)]
      simp only [K_within, K_isHanger, K_isKind, K_isSpot, K_isSheet, R_hasDeposit R.2.2.1, R_hasGirl R.2.2.1, R.kg0, R.kg1, R.kob, R.2.2.1.ob_, Option.bind_some, bI_0, K_finding R (i := 0) (x := 0) (by omega) rfl]
    · unfold F_M_fits F_M_fits_0 F_M_fits_35
      simp only [M_in, M_isHanger, M_isPlace, M_isDeposit M, M_isGirl M, M.ob_, M.gr0, Option.bind_some, bI_0, M_notAsked M]
      rw [if_neg c1, Option.bind_some]
      dsimp only
      rw [if_neg (by decide)]
      simp only [M_in, M_isHanger, M_isPlace, M_isDeposit M, M_isGirl M, M.ob_, M.gr0, Option.bind_some, bI_0, M_finds M (i := 0) (v := (-1000001)) (by omega) (by decide)]
theorem st24 : St24 Rel := by
  intro a1 a2 w ⟨h, s, g2, g3, q, R, G⟩
  by_cases c1 : 0 ≤ a1 ∧ a1 ≤ 3
  · have c1' := c1
    obtain ⟨i, -, hi3, rfl⟩ := btw (m := 0) (n := 3) rfl rfl (by omega) (by omega) c1'
    have hi : i < 4 := by omega
    by_cases c2 : h 4 i = 0
    · refine SP_fd R G (i := 5) (r1 := (-1000001) - 5) (r2 := (-1000006)) ?_ (fun M => ?_) (by decide)
      · unfold F_K_kinds F_K_kinds_0 F_K_kinds_32
        simp only [K_within, K_isHanger, K_isKind, K_isSpot, K_isSheet, R_hasDeposit R.2.2.1, R_hasGirl R.2.2.1, R.kg0, R.kg1, R.kob, R.2.2.1.ob_, Option.bind_some, bI_0, K_refused R]
        rw [if_pos c1, nI_clamp (by omega), if_pos c2, Option.bind_some]
        dsimp only
        rw [if_neg (by decide)]
        simp only [K_within, K_isHanger, K_isKind, K_isSpot, K_isSheet, R_hasDeposit R.2.2.1, R_hasGirl R.2.2.1, R.kg0, R.kg1, R.kob, R.2.2.1.ob_, Option.bind_some, bI_0, K_finding R (i := 5) (x := 5) (by omega) rfl]
      · unfold F_M_kinds F_M_kinds_0 F_M_kinds_33
        simp only [M_in, M_isHanger, M_isPlace, M_isDeposit M, M_isGirl M, M.ob_, M.gr0, Option.bind_some, bI_0, M_notAsked M]
        rw [if_pos c1, nI_clamp (by omega), if_pos c2, Option.bind_some]
        dsimp only
        rw [if_neg (by decide)]
        simp only [M_in, M_isHanger, M_isPlace, M_isDeposit M, M_isGirl M, M.ob_, M.gr0, Option.bind_some, bI_0, M_finds M (i := 5) (v := (-1000006)) (by omega) (by decide)]
    · by_cases c3 : 0 ≤ a2 ∧ a2 ≤ h 0 3 - 1
      · have hc := c3
        rw [(Wf_dep G.1).2] at hc
        obtain ⟨d, hd, rfl⟩ := (in_iff (by have := Wf_dep G.1; omega)).mp hc
        have hd8 : d < 8 := by have := Wf_dep G.1; omega
        obtain ⟨z, hz, ez⟩ := (G.2.2.2.1 i hi).2.1
        have hV : ∀ i, i < 7 → Wf ((fun j => upd (h 0) (11 + 6 * d) (nI j)) i) := by
          intro i hi
          dsimp only
          refine Wf_upd G.1 (by omega) (by omega) (fun _ => ?_) (fun _ _ => by omega)
          have hb := hiB_it d hd8 0 (by omega)
          rw [Nat.add_zero] at hb
          rw [hb, nI_toInt (by omega)]
          show 0 ≤ (i : Int) ∧ (i : Int) ≤ 6
          omega
        have hv : ∀ (i : Nat) (w : A_W), i < 7 → RC w 13 (h 0) → F_R_vary 13 2 (nI d) (nI i) w = some (rW w 13 ((fun j => upd (h 0) (11 + 6 * d) (nI j)) i)) := by
          intro i w hi hR
          unfold F_R_vary F_R_vary_0 F_R_vary_67
          rw [if_neg (by decide), if_neg (by decide)]
          simp only [hR.b_gr6, Option.bind_some, hR.b_wr_kind hd8 rfl]
        obtain ⟨t, ht⟩ := K_set_loop (N := 7) hi hz ez (by omega) hV hv FU 7 0 w g2 0 0 R rfl (by omega) (by unfold FU; omega)
        refine SP_tr R G (t := t) (r1 := seN (h 6) i (min z 8) (fun j => upd (h 0) (11 + 6 * d) (nI j)) 7 0 0) (r2 := seN (h 6) i (min z 8) (fun j => upd (h 0) (11 + 6 * d) (nI j)) 7 0 0) ?_ (fun M => ?_) rfl
        · unfold F_K_kinds F_K_kinds_0 F_K_kinds_32 F_K_setAsTold F_K_setAsTold_0 F_K_setAsTold_12
          simp only [K_within, K_isHanger, K_isKind, K_isSpot, K_isSheet, R_hasDeposit R.2.2.1, R_hasGirl R.2.2.1, R.kg0, R.kg1, R.kob, R.2.2.1.ob_, Option.bind_some, bI_0, K_refused R]
          rw [if_pos c1, nI_clamp (by omega), if_neg c2, if_pos c3, Option.bind_some, if_pos rfl]
          have ht2 : F_K_setAsTold_20 FU 0 2 (41 + 2 * i) (nI d) 7 0 0 w = _ := ht
          simp only [K_within, K_isHanger, K_isKind, K_isSpot, K_isSheet, R_hasDeposit R.2.2.1, R_hasGirl R.2.2.1, R.kg0, R.kg1, R.kob, R.2.2.1.ob_, Option.bind_some, bI_0, R.2.1.g5, R.2.1.ra_ hi rfl]
          rw [if_pos trivial, ht2]
          rfl
        · have mb := M_allowed M (p := 11 + 6 * d) (N := 7) hi hz ez (by omega) (by omega) (V := fun j => upd (h 0) (11 + 6 * d) (nI j)) (fun i hi => ⟨hV i hi, rfl⟩) (x := 11 + (6 * nI d)) (y := 7) ((show 11 + 6 * nI d = nI (11 + 6 * d) by rw [show (6 : Int32) * nI d = nI (6 * d) from pk_mul 6 d]; exact nI_add 11 (6 * d))) rfl
          unfold F_M_kinds F_M_kinds_0 F_M_kinds_33
          simp only [M_in, M_isHanger, M_isPlace, M_isDeposit M, M_isGirl M, M.ob_, M.gr0, Option.bind_some, bI_0, M_notAsked M]
          rw [if_pos c1, nI_clamp (by omega), if_neg c2, if_pos c3, Option.bind_some, if_pos rfl]
          simp only [M_in, M_isHanger, M_isPlace, M_isDeposit M, M_isGirl M, M.ob_, M.gr0, Option.bind_some, bI_0, mb]
      · refine SP_fd R G (i := 0) (r1 := (-1000001) - 0) (r2 := (-1000001)) ?_ (fun M => ?_) (by decide)
        · unfold F_K_kinds F_K_kinds_0 F_K_kinds_32
          simp only [K_within, K_isHanger, K_isKind, K_isSpot, K_isSheet, R_hasDeposit R.2.2.1, R_hasGirl R.2.2.1, R.kg0, R.kg1, R.kob, R.2.2.1.ob_, Option.bind_some, bI_0, K_refused R]
          rw [if_pos c1, nI_clamp (by omega), if_neg c2, if_neg c3, Option.bind_some]
          dsimp only
          rw [if_neg (by decide)]
          simp only [K_within, K_isHanger, K_isKind, K_isSpot, K_isSheet, R_hasDeposit R.2.2.1, R_hasGirl R.2.2.1, R.kg0, R.kg1, R.kob, R.2.2.1.ob_, Option.bind_some, bI_0, K_finding R (i := 0) (x := 0) (by omega) rfl]
        · unfold F_M_kinds F_M_kinds_0 F_M_kinds_33
          simp only [M_in, M_isHanger, M_isPlace, M_isDeposit M, M_isGirl M, M.ob_, M.gr0, Option.bind_some, bI_0, M_notAsked M]
          rw [if_pos c1, nI_clamp (by omega), if_neg c2, if_neg c3, Option.bind_some]
          dsimp only
          rw [if_neg (by decide)]
          simp only [M_in, M_isHanger, M_isPlace, M_isDeposit M, M_isGirl M, M.ob_, M.gr0, Option.bind_some, bI_0, M_finds M (i := 0) (v := (-1000001)) (by omega) (by decide)]
  · refine SP_fd R G (i := 0) (r1 := (-1000001) - 0) (r2 := (-1000001)) ?_ (fun M => ?_) (by decide)
    · unfold F_K_kinds F_K_kinds_0 F_K_kinds_32
      simp only [K_within, K_isHanger, K_isKind, K_isSpot, K_isSheet, R_hasDeposit R.2.2.1, R_hasGirl R.2.2.1, R.kg0, R.kg1, R.kob, R.2.2.1.ob_, Option.bind_some, bI_0, K_refused R]
      rw [if_neg c1, Option.bind_some]
      dsimp only
      rw [if_neg (by decide)]
      simp only [K_within, K_isHanger, K_isKind, K_isSpot, K_isSheet, R_hasDeposit R.2.2.1, R_hasGirl R.2.2.1, R.kg0, R.kg1, R.kob, R.2.2.1.ob_, Option.bind_some, bI_0, K_finding R (i := 0) (x := 0) (by omega) rfl]
    · unfold F_M_kinds F_M_kinds_0 F_M_kinds_33
      simp only [M_in, M_isHanger, M_isPlace, M_isDeposit M, M_isGirl M, M.ob_, M.gr0, Option.bind_some, bI_0, M_notAsked M]
      rw [if_neg c1, Option.bind_some]
      dsimp only
      rw [if_neg (by decide)]
      simp only [M_in, M_isHanger, M_isPlace, M_isDeposit M, M_isGirl M, M.ob_, M.gr0, Option.bind_some, bI_0, M_finds M (i := 0) (v := (-1000001)) (by omega) (by decide)]
