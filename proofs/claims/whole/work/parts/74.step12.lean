/-! NUMBERS ARE COPIED -/
abbrev HR (z : Nat) (x n : Int32) : Prop := 0 ≤ x.toInt ∧ 0 ≤ n.toInt ∧ x.toInt + n.toInt ≤ (z : Int)
theorem lt0 (x : Int32) : x < 0 ↔ x.toInt < 0 := by rw [Int32.lt_iff_toInt_lt]; rfl
theorem sub_ti {x : Int32} {z : Nat} (h : 0 ≤ x.toInt) (hz : z ≤ 40) : (nI z - x).toInt = (z : Int) - x.toInt := by
  rw [Int32.toInt_sub, nI_toInt (by omega)]
  have h2 := Int32.toInt_lt x
  exact Int.bmod_eq_of_le (by omega) (by omega)
theorem S_hasRun {w : A_W} {lk : Int32} {fd b z c q tp : Nat → Int32} (K : KX w lk fd b z c q tp) {i zz : Nat} (hi : i < 4) (hz : zz ≤ 40) (ez : z i = nI zz) (x n : Int32) : F_S_hasRun (41 + 2 * i) x n w = some (bI (HR zz x n), w) := by
  unfold F_S_hasRun F_S_hasRun_0 F_S_hasRun_30 F_S_hasRun_31
  simp only [K.s1 hi, ez, Option.bind_some]
  have z1 : ∀ {y : Int32}, y < 0 ↔ y.toInt < 0 := fun {y} => lt0 y
  unfold bI
  by_cases hr : HR zz x n
  · have e := sub_ti hr.1 hz
    rw [if_neg (fun t => by have := z1.mp t; omega), if_neg (fun t => by have := z1.mp t; omega), if_neg (fun t => by rw [Int32.lt_iff_toInt_lt, nI_toInt (by omega)] at t; omega), if_neg (fun t => by rw [Int32.lt_iff_toInt_lt, e] at t; omega), if_pos hr]
    rfl
  · rw [if_neg hr]
    split
    · rfl
    · rename_i c1
      split
      · rfl
      · rename_i c2
        rw [z1] at c1 c2
        have e := sub_ti (x := x) (by omega) hz
        split
        · rfl
        · split
          · rfl
          · rename_i c3 c4
            rw [Int32.lt_iff_toInt_lt, e] at c4
            exact absurd ⟨by omega, by omega, by omega⟩ hr
def cpc (c : Nat → Int32) (A B n : Nat) : Nat → Int32 := fun k => if B ≤ k ∧ k < B + n then c (A + (k - B)) else c k
def cpb (c : Nat → Int32) (A B n d : Nat) : Nat → Int32 := fun k => if B + n - d ≤ k ∧ k < B + n then c (A + (k - B)) else c k
theorem cpc_0 (c : Nat → Int32) (A B : Nat) : cpc c A B 0 = c := by funext k; unfold cpc; rw [if_neg (by omega)]
theorem cpb_0 (c : Nat → Int32) (A B n : Nat) : cpb c A B n 0 = c := by funext k; unfold cpb; rw [if_neg (by omega)]
theorem cpb_n (c : Nat → Int32) (A B n : Nat) : cpb c A B n n = cpc c A B n := by funext k; unfold cpb cpc; rw [show B + n - n = B by omega]
theorem cpc_s (c : Nat → Int32) (A B d : Nat) : upd (cpc c A B d) (B + d) (c (A + d)) = cpc c A B (d + 1) := by
  funext k
  by_cases e : k = B + d
  · subst e; rw [upd_s]; unfold cpc; rw [if_pos (by omega)]; congr 1; omega
  · rw [upd_n e]; unfold cpc
    by_cases e2 : B ≤ k ∧ k < B + d
    · rw [if_pos e2, if_pos (by omega)]
    · rw [if_neg e2, if_neg (by omega)]
theorem cpb_s (c : Nat → Int32) (A B : Nat) {n d : Nat} (hd : d < n) : upd (cpb c A B n d) (B + (n - 1 - d)) (c (A + (n - 1 - d))) = cpb c A B n (d + 1) := by
  funext k
  by_cases e : k = B + (n - 1 - d)
  · subst e; rw [upd_s]; unfold cpb; rw [if_pos (by omega)]; congr 1; omega
  · rw [upd_n e]; unfold cpb
    by_cases e2 : B + n - d ≤ k ∧ k < B + n
    · rw [if_pos e2, if_pos (by omega)]
    · rw [if_neg e2, if_neg (by omega)]
theorem n40a {i k d : Nat} : ((40 : Int32) * nI i + nI k) + nI d = nI (40 * i + k + d) := by rw [n40, nI_add]
section CPY
variable {sg : Nat → Int32} {s t a b n : Nat} {c : Nat → Int32}
theorem M_cf_loop (hs : s < 4) (ht : t < 4) (ha : a + n ≤ 40) (hb : b + n ≤ 40) (hd : b ≤ a) : ∀ (m k d : Nat) (w : A_W) (h : Nat → Nat → Int32) (x : Int32), MM w h sg → h 6 = cpc c (40 * s + a) (40 * t + b) d → x = nI d → d + k = n → k < m → F_M_copy_28 m 49 (nI s) (nI a) (nI t) (nI b) (nI n) x w = some (nI n, mW w 6 (cpc c (40 * s + a) (40 * t + b) n)) := by
  intro m
  induction m with
  | zero => intro k d w h x _ _ _ _ hk; exact absurd hk (by omega)
  | succ m ih =>
    intro k d w h x M e6 hx hk hm
    rw [F_M_copy_28, hx]
    cases k with
    | zero =>
      rw [if_pos (nI_le (by omega) (by omega)), show n = d by omega, ← e6, M.mW_id (by omega)]
    | succ k =>
      rw [if_neg (fun z => by rw [nI_leI (by omega) (by omega)] at z; omega), if_pos (nI_le hd (by omega))]
      unfold F_M_copy_53
      have er : h 6 (40 * s + a + d) = c (40 * s + a + d) := by
        rw [e6]; unfold cpc
        by_cases e : 40 * t + b ≤ 40 * s + a + d ∧ 40 * s + a + d < 40 * t + b + d
        · exfalso
          by_cases st : s = t
          · subst st; omega
          · omega
        · rw [if_neg e]
      have hw := M.wr6 (k := 40 * t + b + d) (by omega) rfl (c (40 * s + a + d))
      rw [e6, cpc_s] at hw
      simp only [M.gr7, Option.bind_some, n40a, M.rd6 (k := 40 * s + a + d) (by omega) rfl, er, hw]
      have h3 := ih k (d + 1) _ _ (nI d + 1) (M.set (a := 6) (by omega) (cpc c (40 * s + a) (40 * t + b) (d + 1))) (hset_self _ _ _) (nI_1 d) (by omega) (by omega)
      rw [mW_mW] at h3
      exact h3
theorem M_cb_loop (hs : s < 4) (ht : t < 4) (ha : a + n ≤ 40) (hb : b + n ≤ 40) (hd : a < b) : ∀ (m k d : Nat) (w : A_W) (h : Nat → Nat → Int32) (x : Int32), MM w h sg → h 6 = cpb c (40 * s + a) (40 * t + b) n d → x = nI d → d + k = n → k < m → F_M_copy_28 m 49 (nI s) (nI a) (nI t) (nI b) (nI n) x w = some (nI n, mW w 6 (cpc c (40 * s + a) (40 * t + b) n)) := by
  intro m
  induction m with
  | zero => intro k d w h x _ _ _ _ hk; exact absurd hk (by omega)
  | succ m ih =>
    intro k d w h x M e6 hx hk hm
    rw [F_M_copy_28, hx]
    cases k with
    | zero =>
      have hdn : d = n := by omega
      subst hdn
      rw [if_pos (nI_le (by omega) (by omega)), ← cpb_n, ← e6, M.mW_id (by omega)]
    | succ k =>
      rw [if_neg (fun z => by rw [nI_leI (by omega) (by omega)] at z; omega), if_neg (fun z => by rw [nI_leI (by omega) (by omega)] at z; omega)]
      unfold F_M_copy_53
      have ey : (nI n - 1) - nI d = nI (n - 1 - d) := by rw [show nI n - 1 = nI (n - 1) from pk_sub (b := 1) (by omega), pk_sub (by omega)]
      have er : h 6 (40 * s + a + (n - 1 - d)) = c (40 * s + a + (n - 1 - d)) := by
        rw [e6]; unfold cpb
        by_cases e : 40 * t + b + n - d ≤ 40 * s + a + (n - 1 - d) ∧ 40 * s + a + (n - 1 - d) < 40 * t + b + n
        · exfalso
          by_cases st : s = t
          · subst st; omega
          · omega
        · rw [if_neg e]
      have hw := M.wr6 (k := 40 * t + b + (n - 1 - d)) (by omega) rfl (c (40 * s + a + (n - 1 - d)))
      rw [e6, cpb_s _ _ _ (by omega)] at hw
      simp only [M.gr7, Option.bind_some, ey, n40a, M.rd6 (k := 40 * s + a + (n - 1 - d)) (by omega) rfl, er, hw]
      have h3 := ih k (d + 1) _ _ (nI d + 1) (M.set (a := 6) (by omega) (cpb c (40 * s + a) (40 * t + b) n (d + 1))) (hset_self _ _ _) (nI_1 d) (by omega) (by omega)
      rw [mW_mW] at h3
      exact h3
theorem M_cp_all {w : A_W} {h : Nat → Nat → Int32} (M : MM w h sg) (hs : s < 4) (ht : t < 4) (ha : a + n ≤ 40) (hb : b + n ≤ 40) : F_M_copy_28 FU 49 (nI s) (nI a) (nI t) (nI b) (nI n) 0 w = some (nI n, mW w 6 (cpc (h 6) (40 * s + a) (40 * t + b) n)) := by
  by_cases hd : b ≤ a
  · have h1 := M_cf_loop (c := h 6) hs ht ha hb hd FU n 0 w h 0 M (cpc_0 _ _ _).symm rfl (by omega) (by unfold FU; omega)
    rw [h1]
  · have h1 := M_cb_loop (c := h 6) hs ht ha hb (by omega) FU n 0 w h 0 M (cpb_0 _ _ _ _).symm rfl (by omega) (by unfold FU; omega)
    rw [h1]
theorem nf_cp (c : Nat → Int32) (hs : s < 4) (ht : t < 4) (ha : a + n ≤ 40) (hb : b + n ≤ 40) : nf (cpc c (40 * s + a) (40 * t + b) n) t = va_cpy (nf c s) (nf c t) a b n := by
  funext j
  by_cases e : b ≤ j ∧ j < b + n
  · rw [pk_cpy_in e.1 e.2]
    unfold nf cpc
    rw [if_pos (by omega), if_pos (by omega), if_pos (by omega)]
    congr 1; omega
  · rw [pk_cpy_out (by omega)]
    unfold nf cpc
    split
    · rw [if_neg (by omega)]
    · rfl
theorem nf_cpo (c : Nat → Int32) (A : Nat) (hb : b + n ≤ 40) {j : Nat} (hj : j ≠ t) : nf (cpc c A (40 * t + b) n) j = nf c j := by
  funext k
  unfold nf cpc
  split
  · rw [if_neg (by omega)]
  · rfl
theorem K_cp {w : A_W} {lk : Int32} {fd bb z q tp : Nat → Int32} (K : KX w lk fd bb z c q tp) (hs : s < 4) (ht : t < 4) (ha : a + n ≤ 40) (hb : b + n ≤ 40) : cp w (42 + 2 * s) (nI a) (42 + 2 * t) (nI b) (nI n) = some (cW w t (cpc c (40 * s + a) (40 * t + b) n)) := by
  unfold cp
  rw [(K.2.2.2.2.2 s hs).2]
  dsimp only
  rw [(K.2.2.2.2.2 t ht).2]
  dsimp only
  rw [nI_clamp (by omega), nI_clamp (by omega), nI_clamp (by omega), if_pos ⟨⟨nI_pos (by omega), nI_pos (by omega), nI_pos (by omega)⟩, by omega, by omega⟩, ← nf_cp c hs ht ha hb]
  rfl
end CPY
theorem M_notCopied {w : A_W} {h : Nat → Nat → Int32} {sg : Nat → Int32} (M : MM w h sg) {s t zs zt : Nat} (hs : s < 4) (ht : t < 4) (hzs : zs ≤ 40) (hzt : zt ≤ 40) (es : h 5 s = nI zs) (et : h 5 t = nI zt) (bs : ¬ h 4 s = 0) (bt : ¬ h 4 t = 0) (be : h 4 s = h 4 t) (a b n : Int32) : F_M_notCopied 49 (nI s) a (nI t) b n w = some (if HR zs a n ∧ HR zt b n then 0 else -1000001, w) := by
  unfold F_M_notCopied F_M_notCopied_0 F_M_notCopied_101 F_M_notCopied_102 F_M_notCopied_115
  simp only [M_isSheet, Option.bind_some, bI_0]
  rw [if_neg (fun z => z (sh_in hs)), if_neg (fun z => z (sh_in ht))]
  simp only [M.gr5, M.gr6, Option.bind_some, M.rd4 hs rfl, M.rd4 ht rfl, M.rd5 hs rfl, M.rd5 ht rfl, es, et]
  rw [if_neg bs, if_neg bt, if_pos be]
  have z1 : ∀ {y : Int32}, y < 0 ↔ y.toInt < 0 := fun {y} => lt0 y
  by_cases hr : HR zs a n ∧ HR zt b n
  · have e1 := sub_ti hr.1.1 hzs
    have e2 := sub_ti hr.2.1 hzt
    rw [if_neg (fun t => by have := z1.mp t; omega), if_neg (fun t => by have := z1.mp t; omega), if_neg (fun t => by have := z1.mp t; omega), if_neg (fun t => by rw [Int32.lt_iff_toInt_lt, e1] at t; omega), if_neg (fun t => by rw [Int32.lt_iff_toInt_lt, e2] at t; omega), if_neg (by decide), if_pos hr]
  · rw [if_neg hr]
    split
    · rfl
    · rename_i c1
      split
      · rfl
      · rename_i c2
        split
        · rfl
        · rename_i c3
          rw [z1] at c1 c2 c3
          have e1 := sub_ti (x := a) (by omega) hzs
          have e2 := sub_ti (x := b) (by omega) hzt
          split
          · rfl
          · split
            · rfl
            · rename_i c4 c5
              rw [Int32.lt_iff_toInt_lt] at c4 c5
              rw [e1] at c4
              rw [e2] at c5
              exact absurd ⟨⟨by omega, by omega, by omega⟩, ⟨by omega, by omega, by omega⟩⟩ hr
theorem M_nc_y {w : A_W} {h : Nat → Nat → Int32} {sg : Nat → Int32} (M : MM w h sg) {s t zs zt : Nat} (hs : s < 4) (ht : t < 4) (hzs : zs ≤ 40) (hzt : zt ≤ 40) (es : h 5 s = nI zs) (et : h 5 t = nI zt) (bs : ¬ h 4 s = 0) (bt : ¬ h 4 t = 0) (be : h 4 s = h 4 t) {a b n : Int32} (hr : HR zs a n ∧ HR zt b n) : F_M_notCopied 49 (nI s) a (nI t) b n w = some (0, w) := by rw [M_notCopied M hs ht hzs hzt es et bs bt be, if_pos hr]
theorem M_nc_n {w : A_W} {h : Nat → Nat → Int32} {sg : Nat → Int32} (M : MM w h sg) {s t zs zt : Nat} (hs : s < 4) (ht : t < 4) (hzs : zs ≤ 40) (hzt : zt ≤ 40) (es : h 5 s = nI zs) (et : h 5 t = nI zt) (bs : ¬ h 4 s = 0) (bt : ¬ h 4 t = 0) (be : h 4 s = h 4 t) {a b n : Int32} (hr : ¬ (HR zs a n ∧ HR zt b n)) : F_M_notCopied 49 (nI s) a (nI t) b n w = some (-1000001, w) := by rw [M_notCopied M hs ht hzs hzt es et bs bt be, if_neg hr]
theorem M_nc_1 {w : A_W} {x3 : Int32} (t : Nat) {x1 : Int32} (c1 : ¬ (0 ≤ x1 ∧ x1 ≤ 3)) (a b n : Int32) : F_M_notCopied t x1 a x3 b n w = some (-1000001, w) := by
  unfold F_M_notCopied F_M_notCopied_0 F_M_notCopied_14
  simp only [M_isSheet, Option.bind_some, bI_0]
  rw [if_pos c1]
theorem M_nc_2 {w : A_W} {x3 : Int32} (t : Nat) {x1 : Int32} (c1 : 0 ≤ x1 ∧ x1 ≤ 3) (c2 : ¬ (0 ≤ x3 ∧ x3 ≤ 3)) (a b n : Int32) : F_M_notCopied t x1 a x3 b n w = some (-1000001, w) := by
  unfold F_M_notCopied F_M_notCopied_0 F_M_notCopied_14
  simp only [M_isSheet, Option.bind_some, bI_0]
  rw [if_neg (fun z => z c1), if_pos c2]
theorem M_nc_3 {w : A_W} {h : Nat → Nat → Int32} {sg : Nat → Int32} (M : MM w h sg) {s t : Nat} (hs : s < 4) (ht : t < 4) (c : h 4 s = 0 ∨ h 4 t = 0) (a b n : Int32) : F_M_notCopied 49 (nI s) a (nI t) b n w = some (-1000006, w) := by
  unfold F_M_notCopied F_M_notCopied_0 F_M_notCopied_35
  simp only [M_isSheet, Option.bind_some, bI_0]
  rw [if_neg (fun z => z (sh_in hs)), if_neg (fun z => z (sh_in ht))]
  simp only [M.gr5, Option.bind_some, M.rd4 hs rfl, M.rd4 ht rfl]
  by_cases c1 : h 4 s = 0
  · rw [if_pos c1]
  · rw [if_neg c1, if_pos (c.resolve_left c1)]
theorem M_nc_4 {w : A_W} {h : Nat → Nat → Int32} {sg : Nat → Int32} (M : MM w h sg) {s t : Nat} (hs : s < 4) (ht : t < 4) (bs : ¬ h 4 s = 0) (bt : ¬ h 4 t = 0) (be : ¬ h 4 s = h 4 t) (a b n : Int32) : F_M_notCopied 49 (nI s) a (nI t) b n w = some (-1000003, w) := by
  unfold F_M_notCopied F_M_notCopied_0
  simp only [M_isSheet, Option.bind_some, bI_0]
  rw [if_neg (fun z => z (sh_in hs)), if_neg (fun z => z (sh_in ht))]
  simp only [M.gr5, Option.bind_some, M.rd4 hs rfl, M.rd4 ht rfl]
  rw [if_neg bs, if_neg bt, if_neg be]
theorem HR_n {z : Nat} {x n : Int32} (h : HR z x n) (hz : z ≤ 40) : ∃ a k : Nat, x = nI a ∧ n = nI k ∧ a + k ≤ z := by
  refine ⟨x.toNatClampNeg, n.toNatClampNeg, nI_of_bd h.1 (Int.le_refl _), nI_of_bd h.2.1 (Int.le_refl _), ?_⟩
  show x.toInt.toNat + n.toInt.toNat ≤ z
  omega
theorem st35 : St35 Rel := by
  intro a1 a2 a3 a4 a5 w ⟨h, sg, g2, g3, q, R, G⟩
  by_cases c1 : 0 ≤ a1 ∧ a1 ≤ 3
  · by_cases c2 : 0 ≤ a3 ∧ a3 ≤ 3
    · have c1' := c1
      have c2' := c2
      obtain ⟨s, -, hs3, rfl⟩ := btw (m := 0) (n := 3) rfl rfl (by omega) (by omega) c1'
      obtain ⟨t, -, ht3, rfl⟩ := btw (m := 0) (n := 3) rfl rfl (by omega) (by omega) c2'
      have hs : s < 4 := by omega
      have ht : t < 4 := by omega
      obtain ⟨zs, zs1, es⟩ := (G.2.2.2.1 s hs).2.1
      obtain ⟨zt, zt1, et⟩ := (G.2.2.2.1 t ht).2.1
      by_cases c3 : h 4 s = 0
      · refine SP_fd R G (i := 5) (r1 := (-1000001) - 5) (r2 := (-1000006)) ?_ (fun M => ?_) (by decide)
        · unfold F_K_copy F_K_copy_0 F_K_copy_44
          simp only [K_within, K_isHanger, K_isKind, K_isSpot, K_isSheet, R_hasDeposit R.2.2.1, R_hasGirl R.2.2.1, R.kg0, R.kg1, R.kob, R.2.2.1.ob_, Option.bind_some, bI_0]
          rw [if_neg (fun z => z c1), if_neg (fun z => z c2)]
          simp only [K_within, K_isHanger, K_isKind, K_isSpot, K_isSheet, R_hasDeposit R.2.2.1, R_hasGirl R.2.2.1, R.kg0, R.kg1, R.kob, R.2.2.1.ob_, Option.bind_some, bI_0, R.2.1.g5, R.2.1.ra_ hs rfl, R.2.1.ra_ ht rfl, R.2.1.sob hs, R.2.1.sob ht, R.2.1.miss hs, R.2.1.miss ht, R.2.1.s0 hs, R.2.1.s0 ht, S_hasRun R.2.1 hs zs1 es, S_hasRun R.2.1 ht zt1 et, R.2.1.s2 hs, R.2.1.s2 ht]
          rw [if_neg (fun z => z c3)]
          simp only [K_within, K_isHanger, K_isKind, K_isSpot, K_isSheet, R_hasDeposit R.2.2.1, R_hasGirl R.2.2.1, R.kg0, R.kg1, R.kob, R.2.2.1.ob_, Option.bind_some, bI_0, K_finding R (i := 5) (x := 5) (by omega) rfl]
        · unfold F_M_copy F_M_copy_0
          rw [M.ob_, Option.bind_some, M_nc_3 M hs ht (Or.inl c3), Option.bind_some]
          dsimp only
          rw [if_neg (by decide)]
          simp only [M_in, M_isHanger, M_isPlace, M_isDeposit M, M_isGirl M, M.ob_, M.gr0, Option.bind_some, bI_0, M_finds M (i := 5) (v := (-1000006)) (by omega) (by decide)]
      · by_cases c4 : h 4 t = 0
        · refine SP_fd R G (i := 5) (r1 := (-1000001) - 5) (r2 := (-1000006)) ?_ (fun M => ?_) (by decide)
          · unfold F_K_copy F_K_copy_0 F_K_copy_44
            simp only [K_within, K_isHanger, K_isKind, K_isSpot, K_isSheet, R_hasDeposit R.2.2.1, R_hasGirl R.2.2.1, R.kg0, R.kg1, R.kob, R.2.2.1.ob_, Option.bind_some, bI_0]
            rw [if_neg (fun z => z c1), if_neg (fun z => z c2)]
            simp only [K_within, K_isHanger, K_isKind, K_isSpot, K_isSheet, R_hasDeposit R.2.2.1, R_hasGirl R.2.2.1, R.kg0, R.kg1, R.kob, R.2.2.1.ob_, Option.bind_some, bI_0, R.2.1.g5, R.2.1.ra_ hs rfl, R.2.1.ra_ ht rfl, R.2.1.sob hs, R.2.1.sob ht, R.2.1.miss hs, R.2.1.miss ht, R.2.1.s0 hs, R.2.1.s0 ht, S_hasRun R.2.1 hs zs1 es, S_hasRun R.2.1 ht zt1 et, R.2.1.s2 hs, R.2.1.s2 ht]
            rw [if_pos c3, if_neg (fun z => z c4)]
            simp only [K_within, K_isHanger, K_isKind, K_isSpot, K_isSheet, R_hasDeposit R.2.2.1, R_hasGirl R.2.2.1, R.kg0, R.kg1, R.kob, R.2.2.1.ob_, Option.bind_some, bI_0, K_finding R (i := 5) (x := 5) (by omega) rfl]
          · unfold F_M_copy F_M_copy_0
            rw [M.ob_, Option.bind_some, M_nc_3 M hs ht (Or.inr c4), Option.bind_some]
            dsimp only
            rw [if_neg (by decide)]
            simp only [M_in, M_isHanger, M_isPlace, M_isDeposit M, M_isGirl M, M.ob_, M.gr0, Option.bind_some, bI_0, M_finds M (i := 5) (v := (-1000006)) (by omega) (by decide)]
        · by_cases c5 : h 4 s = h 4 t
          · by_cases c6 : HR zs a2 a5
            · by_cases c7 : HR zt a4 a5
              · obtain ⟨a, n, rfl, rfl, han⟩ := HR_n c6 zs1
                obtain ⟨b, n2, rfl, en2, hbn⟩ := HR_n c7 zt1
                have e2 : n2 = n := ((nI_eq (by omega) (by omega)).mp en2).symm
                subst e2
                refine SP_cells R G ht (c' := cpc (h 6) (40 * s + a) (40 * t + b) n2) (fun j _ hj => nf_cpo _ _ (by omega) hj) (r1 := nI n2) (r2 := nI n2) ?_ (fun M => ?_) rfl
                · unfold F_K_copy F_K_copy_0
                  simp only [K_within, K_isHanger, K_isKind, K_isSpot, K_isSheet, R_hasDeposit R.2.2.1, R_hasGirl R.2.2.1, R.kg0, R.kg1, R.kob, R.2.2.1.ob_, Option.bind_some, bI_0]
                  rw [if_neg (fun z => z c1), if_neg (fun z => z c2)]
                  simp only [K_within, K_isHanger, K_isKind, K_isSpot, K_isSheet, R_hasDeposit R.2.2.1, R_hasGirl R.2.2.1, R.kg0, R.kg1, R.kob, R.2.2.1.ob_, Option.bind_some, bI_0, R.2.1.g5, R.2.1.ra_ hs rfl, R.2.1.ra_ ht rfl, R.2.1.sob hs, R.2.1.sob ht, R.2.1.miss hs, R.2.1.miss ht, R.2.1.s0 hs, R.2.1.s0 ht, S_hasRun R.2.1 hs zs1 es, S_hasRun R.2.1 ht zt1 et, R.2.1.s2 hs, R.2.1.s2 ht]
                  rw [if_pos c3, if_pos c4, if_pos c5, if_neg (fun z => z c6), if_neg (fun z => z c7)]
                  simp only [K_within, K_isHanger, K_isKind, K_isSpot, K_isSheet, R_hasDeposit R.2.2.1, R_hasGirl R.2.2.1, R.kg0, R.kg1, R.kob, R.2.2.1.ob_, Option.bind_some, bI_0, R.2.1.g5, R.2.1.ra_ hs rfl, R.2.1.ra_ ht rfl, R.2.1.sob hs, R.2.1.sob ht, R.2.1.miss hs, R.2.1.miss ht, R.2.1.s0 hs, R.2.1.s0 ht, S_hasRun R.2.1 hs zs1 es, S_hasRun R.2.1 ht zt1 et, R.2.1.s2 hs, R.2.1.s2 ht, K_cp R.2.1 hs ht (a := a) (b := b) (n := n2) (by omega) (by omega)]
                · have h1 := M_cp_all M hs ht (a := a) (b := b) (n := n2) (by omega) (by omega)
                  unfold F_M_copy F_M_copy_0
                  rw [M.ob_, Option.bind_some, M_nc_y M hs ht zs1 zt1 es et c3 c4 c5 ⟨c6, c7⟩, Option.bind_some]
                  dsimp only
                  rw [if_pos rfl, h1]
              · refine SP_fd R G (i := 0) (r1 := (-1000001) - 0) (r2 := (-1000001)) ?_ (fun M => ?_) (by decide)
                · unfold F_K_copy F_K_copy_0 F_K_copy_108
                  simp only [K_within, K_isHanger, K_isKind, K_isSpot, K_isSheet, R_hasDeposit R.2.2.1, R_hasGirl R.2.2.1, R.kg0, R.kg1, R.kob, R.2.2.1.ob_, Option.bind_some, bI_0]
                  rw [if_neg (fun z => z c1), if_neg (fun z => z c2)]
                  simp only [K_within, K_isHanger, K_isKind, K_isSpot, K_isSheet, R_hasDeposit R.2.2.1, R_hasGirl R.2.2.1, R.kg0, R.kg1, R.kob, R.2.2.1.ob_, Option.bind_some, bI_0, R.2.1.g5, R.2.1.ra_ hs rfl, R.2.1.ra_ ht rfl, R.2.1.sob hs, R.2.1.sob ht, R.2.1.miss hs, R.2.1.miss ht, R.2.1.s0 hs, R.2.1.s0 ht, S_hasRun R.2.1 hs zs1 es, S_hasRun R.2.1 ht zt1 et, R.2.1.s2 hs, R.2.1.s2 ht]
                  rw [if_pos c3, if_pos c4, if_pos c5, if_neg (fun z => z c6), if_pos c7]
                  simp only [K_within, K_isHanger, K_isKind, K_isSpot, K_isSheet, R_hasDeposit R.2.2.1, R_hasGirl R.2.2.1, R.kg0, R.kg1, R.kob, R.2.2.1.ob_, Option.bind_some, bI_0, K_finding R (i := 0) (x := 0) (by omega) rfl]
                · unfold F_M_copy F_M_copy_0
                  rw [M.ob_, Option.bind_some, M_nc_n M hs ht zs1 zt1 es et c3 c4 c5 (fun z => c7 z.2), Option.bind_some]
                  dsimp only
                  rw [if_neg (by decide)]
                  simp only [M_in, M_isHanger, M_isPlace, M_isDeposit M, M_isGirl M, M.ob_, M.gr0, Option.bind_some, bI_0, M_finds M (i := 0) (v := (-1000001)) (by omega) (by decide)]
            · refine SP_fd R G (i := 0) (r1 := (-1000001) - 0) (r2 := (-1000001)) ?_ (fun M => ?_) (by decide)
              · unfold F_K_copy F_K_copy_0 F_K_copy_108
                simp only [K_within, K_isHanger, K_isKind, K_isSpot, K_isSheet, R_hasDeposit R.2.2.1, R_hasGirl R.2.2.1, R.kg0, R.kg1, R.kob, R.2.2.1.ob_, Option.bind_some, bI_0]
                rw [if_neg (fun z => z c1), if_neg (fun z => z c2)]
                simp only [K_within, K_isHanger, K_isKind, K_isSpot, K_isSheet, R_hasDeposit R.2.2.1, R_hasGirl R.2.2.1, R.kg0, R.kg1, R.kob, R.2.2.1.ob_, Option.bind_some, bI_0, R.2.1.g5, R.2.1.ra_ hs rfl, R.2.1.ra_ ht rfl, R.2.1.sob hs, R.2.1.sob ht, R.2.1.miss hs, R.2.1.miss ht, R.2.1.s0 hs, R.2.1.s0 ht, S_hasRun R.2.1 hs zs1 es, S_hasRun R.2.1 ht zt1 et, R.2.1.s2 hs, R.2.1.s2 ht]
                rw [if_pos c3, if_pos c4, if_pos c5, if_pos c6]
                simp only [K_within, K_isHanger, K_isKind, K_isSpot, K_isSheet, R_hasDeposit R.2.2.1, R_hasGirl R.2.2.1, R.kg0, R.kg1, R.kob, R.2.2.1.ob_, Option.bind_some, bI_0, K_finding R (i := 0) (x := 0) (by omega) rfl]
              · unfold F_M_copy F_M_copy_0
                rw [M.ob_, Option.bind_some, M_nc_n M hs ht zs1 zt1 es et c3 c4 c5 (fun z => c6 z.1), Option.bind_some]
                dsimp only
                rw [if_neg (by decide)]
                simp only [M_in, M_isHanger, M_isPlace, M_isDeposit M, M_isGirl M, M.ob_, M.gr0, Option.bind_some, bI_0, M_finds M (i := 0) (v := (-1000001)) (by omega) (by decide)]
          · refine SP_fd R G (i := 2) (r1 := (-1000001) - 2) (r2 := (-1000003)) ?_ (fun M => ?_) (by decide)
            · unfold F_K_copy F_K_copy_0 
              simp only [K_within, K_isHanger, K_isKind, K_isSpot, K_isSheet, R_hasDeposit R.2.2.1, R_hasGirl R.2.2.1, R.kg0, R.kg1, R.kob, R.2.2.1.ob_, Option.bind_some, bI_0]
              rw [if_neg (fun z => z c1), if_neg (fun z => z c2)]
              simp only [K_within, K_isHanger, K_isKind, K_isSpot, K_isSheet, R_hasDeposit R.2.2.1, R_hasGirl R.2.2.1, R.kg0, R.kg1, R.kob, R.2.2.1.ob_, Option.bind_some, bI_0, R.2.1.g5, R.2.1.ra_ hs rfl, R.2.1.ra_ ht rfl, R.2.1.sob hs, R.2.1.sob ht, R.2.1.miss hs, R.2.1.miss ht, R.2.1.s0 hs, R.2.1.s0 ht, S_hasRun R.2.1 hs zs1 es, S_hasRun R.2.1 ht zt1 et, R.2.1.s2 hs, R.2.1.s2 ht]
              rw [if_pos c3, if_pos c4, if_neg c5]
              simp only [K_within, K_isHanger, K_isKind, K_isSpot, K_isSheet, R_hasDeposit R.2.2.1, R_hasGirl R.2.2.1, R.kg0, R.kg1, R.kob, R.2.2.1.ob_, Option.bind_some, bI_0, K_finding R (i := 2) (x := 2) (by omega) rfl]
            · unfold F_M_copy F_M_copy_0
              rw [M.ob_, Option.bind_some, M_nc_4 M hs ht c3 c4 c5, Option.bind_some]
              dsimp only
              rw [if_neg (by decide)]
              simp only [M_in, M_isHanger, M_isPlace, M_isDeposit M, M_isGirl M, M.ob_, M.gr0, Option.bind_some, bI_0, M_finds M (i := 2) (v := (-1000003)) (by omega) (by decide)]
    · refine SP_fd R G (i := 0) (r1 := (-1000001) - 0) (r2 := (-1000001)) ?_ (fun M => ?_) (by decide)
      · unfold F_K_copy F_K_copy_0 F_K_copy_14
        simp only [K_within, K_isHanger, K_isKind, K_isSpot, K_isSheet, R_hasDeposit R.2.2.1, R_hasGirl R.2.2.1, R.kg0, R.kg1, R.kob, R.2.2.1.ob_, Option.bind_some, bI_0]
        rw [if_neg (fun z => z c1), if_pos c2]
        simp only [K_within, K_isHanger, K_isKind, K_isSpot, K_isSheet, R_hasDeposit R.2.2.1, R_hasGirl R.2.2.1, R.kg0, R.kg1, R.kob, R.2.2.1.ob_, Option.bind_some, bI_0, K_finding R (i := 0) (x := 0) (by omega) rfl]
      · unfold F_M_copy F_M_copy_0
        rw [M.ob_, Option.bind_some, M_nc_2 49 c1 c2, Option.bind_some]
        dsimp only
        rw [if_neg (by decide)]
        simp only [M_in, M_isHanger, M_isPlace, M_isDeposit M, M_isGirl M, M.ob_, M.gr0, Option.bind_some, bI_0, M_finds M (i := 0) (v := (-1000001)) (by omega) (by decide)]
  · refine SP_fd R G (i := 0) (r1 := (-1000001) - 0) (r2 := (-1000001)) ?_ (fun M => ?_) (by decide)
    · unfold F_K_copy F_K_copy_0 F_K_copy_14
      simp only [K_within, K_isHanger, K_isKind, K_isSpot, K_isSheet, R_hasDeposit R.2.2.1, R_hasGirl R.2.2.1, R.kg0, R.kg1, R.kob, R.2.2.1.ob_, Option.bind_some, bI_0]
      rw [if_pos c1]
      simp only [K_within, K_isHanger, K_isKind, K_isSpot, K_isSheet, R_hasDeposit R.2.2.1, R_hasGirl R.2.2.1, R.kg0, R.kg1, R.kob, R.2.2.1.ob_, Option.bind_some, bI_0, K_finding R (i := 0) (x := 0) (by omega) rfl]
    · unfold F_M_copy F_M_copy_0
      rw [M.ob_, Option.bind_some, M_nc_1 49 c1, Option.bind_some]
      dsimp only
      rw [if_neg (by decide)]
      simp only [M_in, M_isHanger, M_isPlace, M_isDeposit M, M_isGirl M, M.ob_, M.gr0, Option.bind_some, bI_0, M_finds M (i := 0) (v := (-1000001)) (by omega) (by decide)]
