/-! BOUNDS of what the row says, and the class's own days -/
theorem nn_add {x y : Int32} (h1 : 0 ≤ x.toInt) (h2 : 0 ≤ y.toInt) (h3 : x.toInt + y.toInt < 2147483648) : (x + y).toInt = x.toInt + y.toInt := by
  have e1 := nI_of_bd h1 (Int.le_refl _)
  have e2 := nI_of_bd h2 (Int.le_refl _)
  have t1 : (x.toNatClampNeg : Int) = x.toInt := by show ((x.toInt.toNat : Nat) : Int) = _; omega
  have t2 : (y.toNatClampNeg : Int) = y.toInt := by show ((y.toInt.toNat : Nat) : Int) = _; omega
  have e3 : x + y = nI (x.toNatClampNeg + y.toNatClampNeg) := by rw [← nI_add, ← e1, ← e2]
  rw [e3, nI_toInt (by omega)]
  omega
theorem hld_jmin {x b : Int32} (h : 0 ≤ x.toInt) : hld x 0 b = jmin x b := by
  unfold hld jmin
  rw [if_neg]
  rw [Int32.lt_iff_toInt_lt]
  simpa using h
theorem jmax0 (v : Int32) : jmax 0 v = if 0 < v then v else 0 := rfl
theorem dv_n {x y : Int32} {n m : Nat} (hx : x = nI n) (hy : y = nI m) (hn : n < 2 ^ 31) (h0 : 0 < m) (hm : m < 2 ^ 31) : x / y = nI (n / m) := by subst hx; subst hy; exact pk_div hn h0 hm
theorem Wf_n {f : Nat → Int32} (h : Wf f) {d e : Nat} (hd : d < 8) (he : e < 6) : ∃ n : Nat, f (11 + 6 * d + e) = nI n ∧ (n : Int) ≤ itB e := Wf_nat h (by omega) (by omega) (hiB_it d hd e he)
theorem Wf_m {f : Nat → Int32} (h : Wf f) {g e : Nat} (hg : g < 6) (he : e < 3) : ∃ n : Nat, f (59 + 3 * g + e) = nI n ∧ (n : Int) ≤ grB e := Wf_nat h (by omega) (by omega) (hiB_gr g hg e he)
theorem eve_e {f : Nat → Int32} (h : Wf f) {d : Nat} (hd : d < 8) : eve f d = jmin (20 + f (14 + 6 * d) / 10) 50 ∧ 0 ≤ (eve f d).toInt ∧ (eve f d).toInt ≤ 50 := by
  obtain ⟨n, e, hn⟩ := Wf_n h hd (e := 3) (by omega)
  rw [show 11 + 6 * d + 3 = 14 + 6 * d by omega] at e
  have hn : (n : Int) ≤ 9999 := hn
  refine ⟨?_, hld_n (n := 50) (by omega) rfl⟩
  unfold eve
  apply hld_jmin
  rw [e, dv_n (y := 10) (n := n) (m := 10) rfl rfl (by omega) (by omega) (by omega)]
  have e2 : (20 : Int32) + nI (n / 10) = nI (20 + n / 10) := nI_add 20 (n / 10)
  rw [e2, nI_toInt (by omega)]
  omega
theorem shn_bd {f : Nat → Int32} (h : Wf f) {d : Nat} (hd : d < 8) : 0 ≤ (shn f d).toInt ∧ (shn f d).toInt ≤ 150 := by
  obtain ⟨-, e1, e2⟩ := eve_e h hd
  obtain ⟨n, e3, hn⟩ := Wf_n h hd (e := 4) (by omega)
  rw [show 11 + 6 * d + 4 = 15 + 6 * d by omega] at e3
  have hn : (n : Int) ≤ 99 := hn
  have e4 := nI_of_bd e1 e2
  have t1 : ((eve f d).toNatClampNeg : Int) = (eve f d).toInt := by show (((eve f d).toInt.toNat : Nat) : Int) = _; omega
  have e5 : eve f d / 2 = nI ((eve f d).toNatClampNeg / 2) := dv_n (m := 2) e4 rfl (by omega) (by omega) (by omega)
  unfold shn
  split
  · omega
  · split
    · rw [e5, nI_toInt (by omega)]; omega
    · split
      · rw [e5, e3, nI_add, nI_toInt (by omega)]; omega
      · split <;> decide
theorem off_n {f : Nat → Int32} (h : Wf f) {d hh : Nat} (hd : d < 8) (hh2 : hh ≤ 100) : ∃ o : Nat, off f d (nI hh) = nI o ∧ o ≤ 100 ∧ jabs (nI hh - f (12 + 6 * d)) = nI o := by
  obtain ⟨n, e, hn⟩ := Wf_n h hd (e := 1) (by omega)
  rw [show 11 + 6 * d + 1 = 12 + 6 * d by omega] at e
  have hn : (n : Int) ≤ 15 := hn
  unfold off jabs
  rw [e]
  have ti : (nI hh - nI n).toInt = (hh : Int) - n := pk_sub_toInt (by omega) (by omega)
  have z0 : (0 : Int32).toInt = 0 := rfl
  by_cases c : hh ≤ n
  · rw [if_pos (nI_le c (by omega)), pk_sub c]
    refine ⟨n - hh, rfl, by omega, ?_⟩
    by_cases c2 : hh = n
    · subst c2
      rw [if_pos (by rw [Int32.le_iff_toInt_le, ti, z0]; omega), pk_sub (Nat.le_refl _)]
    · rw [if_neg (by rw [Int32.le_iff_toInt_le, ti, z0]; omega)]
      have e3 : (0 : Int32) - (nI hh - nI n) = nI n - nI hh := by rw [Int32.zero_sub, Int32.neg_sub]
      rw [e3, pk_sub c]
  · rw [if_neg (fun z => by rw [nI_leI (by omega) (by omega)] at z; omega)]
    refine ⟨hh - n, pk_sub (by omega), by omega, ?_⟩
    rw [if_pos (by rw [Int32.le_iff_toInt_le, ti, z0]; omega)]
    exact pk_sub (by omega)
theorem gvs_bd {f : Nat → Int32} (h : Wf f) {d hh : Nat} (hd : d < 8) (hh2 : hh ≤ 100) : 0 ≤ (gvs f d (nI hh)).toInt ∧ (gvs f d (nI hh)).toInt ≤ 150 := by
  obtain ⟨o, e1, e2, -⟩ := off_n h hd hh2
  obtain ⟨s1, s2⟩ := shn_bd h hd
  unfold gvs
  rw [e1]
  split
  · rename_i c
    have e4 := nI_of_bd s1 s2
    have t1 : ((shn f d).toNatClampNeg : Int) = (shn f d).toInt := by show (((shn f d).toInt.toNat : Nat) : Int) = _; omega
    have c3 := c.2.2
    rw [e4, show (3 : Int32) * nI o = nI (3 * o) from pk_mul 3 o] at c3 ⊢
    have ti : (nI (shn f d).toNatClampNeg - nI (3 * o)).toInt = ((shn f d).toNatClampNeg : Int) - ((3 * o : Nat) : Int) := pk_sub_toInt (by omega) (by omega)
    rw [Int32.lt_iff_toInt_lt, ti] at c3
    have z0 : (0 : Int32).toInt = 0 := rfl
    rw [ti]; omega
  · decide
theorem lgN_bd {f : Nat → Int32} (h : Wf f) {hh : Nat} (hh2 : hh ≤ 100) : ∀ (k d : Nat) (a : Int32), d + k ≤ 8 → 0 ≤ a.toInt → a.toInt ≤ 150 * d → 0 ≤ (lgN f (nI hh) k d a).toInt ∧ (lgN f (nI hh) k d a).toInt ≤ 1200 := by
  intro k
  induction k with
  | zero => intro d a hd h1 h2; exact ⟨h1, by show a.toInt ≤ 1200; omega⟩
  | succ k ih =>
    intro d a hd h1 h2
    obtain ⟨g1, g2⟩ := gvs_bd h (d := d) (by omega) hh2
    have e := nn_add h1 g1 (by omega)
    exact ih (d + 1) (a + gvs f d (nI hh)) (by omega) (by omega) (by omega)
theorem lgt_bd {f : Nat → Int32} (h : Wf f) {hh : Nat} (hh2 : hh ≤ 100) : 0 ≤ (lgt f (nI hh)).toInt ∧ (lgt f (nI hh)).toInt ≤ 1200 := by
  have h8 := (Wf_dep h).1
  exact lgN_bd h hh2 (dep f) 0 0 (by omega) (by decide) (by decide)
theorem cst_bd (f : Nat → Int32) (d : Nat) : 0 ≤ (cst f d).toInt ∧ (cst f d).toInt ≤ 3 := by
  unfold cst
  repeat' split
  all_goals decide
theorem csN_bd (f : Nat → Int32) : ∀ (k d : Nat) (a : Int32), d + k ≤ 8 → 0 ≤ a.toInt → a.toInt ≤ 3 * d → 0 ≤ (csN f k d a).toInt ∧ (csN f k d a).toInt ≤ 24 := by
  intro k
  induction k with
  | zero => intro d a hd h1 h2; exact ⟨h1, by show a.toInt ≤ 24; omega⟩
  | succ k ih =>
    intro d a hd h1 h2
    have g : 0 ≤ (if f (16 + 6 * d) = 0 then cst f d else 0).toInt ∧ (if f (16 + 6 * d) = 0 then cst f d else 0).toInt ≤ 3 := by
      split
      · exact cst_bd f d
      · decide
    have e := nn_add h1 g.1 (by omega)
    exact ih (d + 1) _ (by omega) (by omega) (by omega)
theorem cas_bd {f : Nat → Int32} (h : Wf f) : 0 ≤ (cas f).toInt ∧ (cas f).toInt ≤ 24 := csN_bd f (dep f) 0 0 (by have := Wf_dep h; omega) (by decide) (by decide)
theorem wrs_bd {f : Nat → Int32} (h : Wf f) (d : Nat) : 0 ≤ (wrs f d).toInt ∧ (wrs f d).toInt ≤ 2 := by
  obtain ⟨n, e, hn⟩ := Wf_nat h (i := 0) (by omega) (by omega) rfl
  have hn : (n : Int) ≤ 99999 := hn
  have e1 : jrem (f 0) 2 = nI (n % 2) := by rw [e]; exact jrem_nI (b := 2) (by omega) (by omega) (by omega)
  have e2 : nI (n % 2) + 1 = nI (n % 2 + 1) := nI_1 _
  unfold wrs
  repeat' split
  all_goals first
    | decide
    | (rw [e1, nI_toInt (by omega)]; omega)
    | (rw [e1, e2, nI_toInt (by omega)]; omega)
section RDY
variable {w : A_W} {t : Nat} {g : Nat → Int32}
theorem R_shineOf (hR : RC w t g) (hf : Wf g) {d : Nat} (hd : d < 8) {x : Int32} (hx : x = nI d) : F_R_shineOf t x w = some (shn g d, w) := by
  unfold F_R_shineOf F_R_shineOf_0 F_R_shineOf_83
  simp only [hR.gr9, hR.gr6, hR.gr10, Option.bind_some, hR.rd_kept hd hx, hR.rd_kind hd hx, hR.rd_worn hd hx]
  rw [← (eve_e hf hd).1]
  unfold shn
  split
  · rfl
  · split
    · rename_i c1 c2; rw [if_neg (by rw [c2]; decide), if_neg (by rw [c2]; decide), if_neg (by rw [c2]; decide)]
    · split
      · rfl
      · split
        · rfl
        · split
          · rename_i c2; rw [if_neg (by rw [c2]; decide)]
          · split <;> rfl
theorem R_reachOf (hR : RC w t g) {d : Nat} (hd : d < 8) {x : Int32} (hx : x = nI d) : F_R_reachOf t x w = some (rch g d, w) := by
  unfold F_R_reachOf F_R_reachOf_0 F_R_reachOf_52
  simp only [hR.gr6, hR.gr10, Option.bind_some, hR.rd_kind hd hx, hR.rd_worn hd hx]
  unfold rch
  split
  · rfl
  · split
    · rename_i c1 c2; rw [if_neg (by rw [c2]; decide), if_neg (by rw [c2]; decide)]
    · split
      · rfl
      · split <;> rfl
/-- the kind is one of seven -/
theorem kind7 {f : Nat → Int32} (h : Wf f) {d : Nat} (hd : d < 8) : f (11 + 6 * d) = 0 ∨ f (11 + 6 * d) = 1 ∨ f (11 + 6 * d) = 2 ∨ f (11 + 6 * d) = 3 ∨ f (11 + 6 * d) = 4 ∨ f (11 + 6 * d) = 5 ∨ f (11 + 6 * d) = 6 := by
  obtain ⟨n, e, hn⟩ := Wf_n h hd (e := 0) (by omega)
  have hn : (n : Int) ≤ 6 := hn
  rw [Nat.add_zero] at e
  rw [e]
  rcases (show n = 0 ∨ n = 1 ∨ n = 2 ∨ n = 3 ∨ n = 4 ∨ n = 5 ∨ n = 6 by omega) with rfl | rfl | rfl | rfl | rfl | rfl | rfl <;> decide
theorem R_costOf (hR : RC w t g) (hf : Wf g) {d : Nat} (hd : d < 8) {x : Int32} (hx : x = nI d) : F_R_costOf t x w = some (cst g d, w) := by
  unfold F_R_costOf F_R_costOf_0 F_R_costOf_56
  simp only [hR.gr6, Option.bind_some, hR.rd_kind hd hx]
  unfold cst
  rcases kind7 hf hd with e | e | e | e | e | e | e <;> rw [e] <;> rfl
theorem R_lightAt_loop (hR : RC w t g) (hf : Wf g) {hh : Nat} (hh2 : hh ≤ 100) : ∀ (n k d : Nat) (a : Int32) (x : Int32), x = nI d → d + k = dep g → k < n → F_R_lightAt_4 n t (nI hh) a x w = some (lgN g (nI hh) k d a, w) := by
  intro n
  induction n with
  | zero => intro k d a x _ _ hk; exact absurd hk (by omega)
  | succ n ih =>
    intro k d a x hx hk hn
    obtain ⟨h8, h3⟩ := Wf_dep hf
    rw [F_R_lightAt_4]
    simp only [hR.gi3, Option.bind_some]
    rw [h3, hx]
    cases k with
    | zero =>
      rw [if_pos (nI_le (by omega) (by omega))]
      rfl
    | succ k =>
      rw [if_neg (fun z => by rw [nI_leI (by omega) (by omega)] at z; omega)]
      have hd : d < 8 := by omega
      obtain ⟨o, e1, e2, e3⟩ := off_n hf hd hh2
      unfold F_R_lightAt_61
      simp only [hR.gr7, hR.gr11, Option.bind_some, hR.rd_hanger hd rfl, hR.rd_out hd rfl, hR.ob_, R_reachOf hR hd rfl, R_shineOf hR hf hd rfl, e3, jmax0]
      have nx : ∀ b : Int32, b = a + gvs g d (nI hh) → F_R_lightAt_4 n t (nI hh) b (nI d + 1) w = some (lgN g (nI hh) (k + 1) d a, w) := by
        intro b hb
        rw [ih k (d + 1) b _ (nI_1 d) (by omega) (by omega), hb]
        rfl
      have a0 : ∀ b : Int32, b = 0 → a = a + b := fun b hb => by rw [hb, Int32.add_zero]
      by_cases c1 : g (16 + 6 * d) = 0
      · rw [if_pos c1]
        by_cases c2 : rch g d < nI o
        · rw [if_pos c2]
          exact nx a (a0 _ (by unfold gvs; rw [e1, if_neg (fun z => Int32.not_le.mpr c2 z.2.1)]))
        · rw [if_neg c2]
          refine nx _ ?_
          unfold gvs
          rw [e1]
          by_cases c3 : 0 < shn g d - 3 * nI o
          · rw [if_pos c3, if_pos ⟨c1, Int32.not_lt.mp c2, c3⟩]
          · rw [if_neg c3, if_neg (fun z => c3 z.2.2)]
      · rw [if_neg c1]
        exact nx a (a0 _ (by unfold gvs; rw [if_neg (fun z => c1 z.1)]))
theorem R_lightAt (hR : RC w t g) (hf : Wf g) {hh : Nat} (hh2 : hh ≤ 100) {x : Int32} (hx : x = nI hh) : F_R_lightAt t x w = some (lgt g (nI hh), w) := by
  subst hx
  unfold F_R_lightAt F_R_lightAt_0 lgt
  have := Wf_dep hf
  exact R_lightAt_loop hR hf hh2 FU (dep g) 0 0 0 rfl (by omega) (by unfold FU; omega)
theorem R_wearOf (hR : RC w t g) (hf : Wf g) {d : Nat} (hd : d < 8) {x : Int32} (hx : x = nI d) : F_R_wearOf t x w = some (wrs g d, w) := by
  obtain ⟨n, e, hn⟩ := Wf_n hf hd (e := 1) (by omega)
  rw [show 11 + 6 * d + 1 = 12 + 6 * d by omega] at e
  have hn : (n : Int) ≤ 15 := hn
  unfold F_R_wearOf F_R_wearOf_0 F_R_wearOf_81 F_R_wearOf_83
  simp only [hR.gi0, hR.gr6, hR.gr7, Option.bind_some, hR.rd_kind hd hx, hR.rd_hanger hd hx, hR.ob_, e, R_lightAt hR hf (hh := n) (by omega) rfl, Int32.zero_add]
  unfold wrs
  rw [e]
  rcases kind7 hf hd with e2 | e2 | e2 | e2 | e2 | e2 | e2 <;> rw [e2]
  all_goals first
    | rfl
    | (show (if lgt g (nI n) ≤ 0 then _ else _) = _
       split
       · rfl
       · rfl)
theorem R_costTogether_loop (hR : RC w t g) (hf : Wf g) : ∀ (n k d : Nat) (a : Int32) (x : Int32), x = nI d → d + k = dep g → k < n → F_R_costTogether_4 n t a x w = some (csN g k d a, w) := by
  intro n
  induction n with
  | zero => intro k d a x _ _ hk; exact absurd hk (by omega)
  | succ n ih =>
    intro k d a x hx hk hn
    obtain ⟨h8, h3⟩ := Wf_dep hf
    rw [F_R_costTogether_4]
    simp only [hR.gi3, Option.bind_some]
    rw [h3, hx]
    cases k with
    | zero =>
      rw [if_pos (nI_le (by omega) (by omega))]
      rfl
    | succ k =>
      rw [if_neg (fun z => by rw [nI_leI (by omega) (by omega)] at z; omega)]
      have hd : d < 8 := by omega
      unfold F_R_costTogether_29
      simp only [hR.gr11, Option.bind_some, hR.rd_out hd rfl, hR.ob_, R_costOf hR hf hd rfl]
      by_cases c1 : g (16 + 6 * d) = 0
      · rw [if_pos c1, ih k (d + 1) _ _ (nI_1 d) (by omega) (by omega), csN, if_pos c1]
      · rw [if_neg c1, ih k (d + 1) _ _ (nI_1 d) (by omega) (by omega), csN, if_neg c1, Int32.add_zero]
theorem R_costTogether (hR : RC w t g) (hf : Wf g) : F_R_costTogether t w = some (cas g, w) := by
  unfold F_R_costTogether F_R_costTogether_0 cas
  have := Wf_dep hf
  exact R_costTogether_loop hR hf FU (dep g) 0 0 0 rfl (by omega) (by unfold FU; omega)
theorem R_girlOfDay (hR : RC w t g) (hf : Wf g) : F_R_girlOfDay t w = some (nI (stI g / 100), w) := by
  unfold F_R_girlOfDay F_R_girlOfDay_0
  obtain ⟨e1, e2, e3, e4, e5⟩ := stI_n hf
  have hm : (g 0).toNatClampNeg % 6 < 6 := Nat.mod_lt _ (by omega)
  have e6 : jrem (g 0) 6 = nI ((g 0).toNatClampNeg % 6) := by rw [e4, nI_clamp (by omega)]; exact jrem_nI (b := 6) (by omega) (by omega) (by omega)
  simp only [hR.gr5, hR.gi0, Option.bind_some, e6, hR.rd_list hm rfl, e1]
  rw [dv_n (y := 100) (n := stI g) (m := 100) rfl rfl (by omega) (by omega) (by omega)]
theorem R_letStand (hR : RC w t g) (hf : Wf g) : F_R_letStand t w = some (rW w t (stn g)) := by
  unfold F_R_letStand F_R_letStand_0 F_R_letStand_93
  obtain ⟨e1, e2, e3, e4, e5⟩ := stI_n hf
  have hm : (g 0).toNatClampNeg % 6 < 6 := Nat.mod_lt _ (by omega)
  have e6 : jrem (g 0) 6 = nI ((g 0).toNatClampNeg % 6) := by rw [e4, nI_clamp (by omega)]; exact jrem_nI (b := 6) (by omega) (by omega) (by omega)
  have e8 : jrem (nI (stI g)) 100 = nI (stI g % 100) := jrem_nI (b := 100) (by omega) (by omega) (by omega)
  obtain ⟨g6, g4⟩ := Wf_grl hf
  simp only [hR.ob_, Option.bind_some, R_girlOfDay hR hf, hR.gi4]
  rw [g4]
  by_cases c : stI g / 100 < grl g
  · rw [if_pos (nI_lt c (by omega))]
    have hq : stI g / 100 < 6 := by omega
    generalize hqe : stI g / 100 = q at c hq ⊢
    have l1 := lgt_bd hf (hh := stI g % 100) (by omega)
    obtain ⟨n0, d0, b0⟩ := Wf_m hf hq (e := 0) (by omega)
    obtain ⟨n2, d2, b2⟩ := Wf_m hf hq (e := 2) (by omega)
    rw [Nat.add_zero] at d0
    rw [show 59 + 3 * q + 2 = 61 + 3 * q by omega] at d2
    have b0 : (n0 : Int) ≤ 99 := b0
    have b2 : (n2 : Int) ≤ 9999 := b2
    have j1 : jmin (g (59 + 3 * q) + lgt g (nI (stI g % 100))) 99 = hld (g (59 + 3 * q) + lgt g (nI (stI g % 100))) 0 99 := by
      refine (hld_jmin ?_).symm
      rw [nn_add (by rw [d0, nI_toInt (by omega)]; omega) l1.1 (by rw [d0, nI_toInt (by omega)]; omega), d0, nI_toInt (by omega)]
      omega
    have j2 : jmin (g (61 + 3 * q) + 1) 9999 = hld (g (61 + 3 * q) + 1) 0 9999 := by
      refine (hld_jmin ?_).symm
      rw [d2, nI_1, nI_toInt (by omega)]; omega
    simp only [hR.gr12, hR.gr5, hR.gi0, Option.bind_some, e6, hR.rd_list hm rfl, e1, e8, hR.rd_dream hq rfl, hR.ob_, R_lightAt hR hf (hh := stI g % 100) (by omega) rfl, hR.wr_dream hq rfl, j1]
    generalize hv : hld (g (59 + 3 * q) + lgt g (nI (stI g % 100))) 0 99 = v
    have h1 := hR.set (upd g (59 + 3 * q) v)
    simp only [h1.gr12, h1.gr13, h1.gr14, Option.bind_some, h1.rd_dream hq rfl, h1.rd_hope hq rfl, h1.rd_met hq rfl, upd_s]
    rw [upd_n (show 60 + 3 * q ≠ 59 + 3 * q by omega), upd_n (show 61 + 3 * q ≠ 59 + 3 * q by omega), j2]
    have es : stn g = stG g q (stI g % 100) := by unfold stn; rw [hqe]; exact if_pos c
    rw [es]
    unfold stG
    rw [hv]
    by_cases c2 : v < g (60 + 3 * q)
    · rw [if_pos c2, if_pos c2]
      have e9 : hld (g (61 + 3 * q) + 0) 0 9999 = g (61 + 3 * q) := by
        rw [Int32.add_zero]
        unfold hld
        rw [d2, if_neg (nI_pos (by omega)), if_neg]
        intro z
        have : (9999 : Int32) = nI 9999 := rfl
        rw [this, nI_ltI (by omega) (by omega)] at z
        omega
      rw [e9]
      have e10 : upd (upd g (59 + 3 * q) v) (61 + 3 * q) (g (61 + 3 * q)) = upd g (59 + 3 * q) v := by
        have := upd_i (upd g (59 + 3 * q) v) (61 + 3 * q)
        rwa [upd_n (by omega)] at this
      rw [e10]
    · rw [if_neg c2, if_neg c2]
      simp only [h1.wr_met hq rfl, Option.bind_some, rW_rW]
      have h2 := h1.set (upd (upd g (59 + 3 * q) v) (61 + 3 * q) (hld (g (61 + 3 * q) + 1) 0 9999))
      rw [rW_rW] at h2
      simp only [h2.gr12, Option.bind_some, h2.wr_dream hq rfl, rW_rW]
      rw [upd_c _ (show 61 + 3 * q ≠ 59 + 3 * q by omega), upd_u]
  · rw [if_neg (fun z => c ((nI_ltI (by omega) (by omega)).mp z))]
    have es : stn g = g := if_neg c
    rw [es, hR.rW_id]
theorem R_pass_inner (k2 : Nat → Int32 → Int32 → A_W → Option A_W) (x1 x2 : Int32) : ∀ (n k d : Nat) (w : A_W) (g : Nat → Int32) (x : Int32), RC w t g → Wf g → x = nI d → d + k = dep g → k < n → F_R_passDays_31 k2 n t x1 x2 x w = k2 t x1 (x2 + 1) (rW w t (dayUp (agN k d g))) := by
  intro n
  induction n with
  | zero => intro k d w g x _ _ _ _ hk; exact absurd hk (by omega)
  | succ n ih =>
    intro k d w g x hR hf hx hk hn
    obtain ⟨h8, h3⟩ := Wf_dep hf
    rw [F_R_passDays_31]
    simp only [hR.gi3, Option.bind_some]
    rw [h3, hx]
    cases k with
    | zero =>
      rw [if_pos (nI_le (by omega) (by omega))]
      obtain ⟨n0, d0, b0⟩ := Wf_nat hf (i := 0) (by omega) (by omega) rfl
      have b0 : (n0 : Int) ≤ 99999 := b0
      have j1 : jmin (g 0 + 1) 99999 = hld (g 0 + 1) 0 99999 := by
        refine (hld_jmin ?_).symm
        rw [d0, nI_1, nI_toInt (by omega)]; omega
      simp only [hR.gi0, Option.bind_some, hR.pf_ (j := 0) (by omega), j1]
      rfl
    | succ k =>
      rw [if_neg (fun z => by rw [nI_leI (by omega) (by omega)] at z; omega)]
      have hd : d < 8 := by omega
      unfold F_R_passDays_91
      simp only [hR.gr11, Option.bind_some, hR.rd_out hd rfl]
      by_cases c1 : g (16 + 6 * d) = 0
      · rw [if_pos c1]
        obtain ⟨n3, d3, b3⟩ := Wf_n hf hd (e := 3) (by omega)
        obtain ⟨n4, d4, b4⟩ := Wf_n hf hd (e := 4) (by omega)
        rw [show 11 + 6 * d + 3 = 14 + 6 * d by omega] at d3
        rw [show 11 + 6 * d + 4 = 15 + 6 * d by omega] at d4
        have b3 : (n3 : Int) ≤ 9999 := b3
        have b4 : (n4 : Int) ≤ 99 := b4
        have wb := wrs_bd hf d
        have j1 : jmin (g (15 + 6 * d) + wrs g d) 99 = hld (g (15 + 6 * d) + wrs g d) 0 99 := by
          refine (hld_jmin ?_).symm
          rw [nn_add (by rw [d4, nI_toInt (by omega)]; omega) wb.1 (by rw [d4, nI_toInt (by omega)]; omega), d4, nI_toInt (by omega)]
          omega
        have j2 : jmin (g (14 + 6 * d) + 1) 9999 = hld (g (14 + 6 * d) + 1) 0 9999 := by
          refine (hld_jmin ?_).symm
          rw [d3, nI_1, nI_toInt (by omega)]; omega
        simp only [hR.gr10, Option.bind_some, hR.rd_worn hd rfl, hR.ob_, R_wearOf hR hf hd rfl, hR.wr_worn hd rfl, j1]
        have h1 := hR.set (upd g (15 + 6 * d) (hld (g (15 + 6 * d) + wrs g d) 0 99))
        simp only [h1.gr9, Option.bind_some, h1.rd_kept hd rfl, h1.wr_kept hd rfl, rW_rW]
        rw [upd_n (show 14 + 6 * d ≠ 15 + 6 * d by omega), j2]
        have e : ag1 g d = upd (upd g (15 + 6 * d) (hld (g (15 + 6 * d) + wrs g d) 0 99)) (14 + 6 * d) (hld (g (14 + 6 * d) + 1) 0 9999) := if_pos c1
        rw [← e]
        have h2 := ih k (d + 1) _ _ (nI d + 1) (hR.set (ag1 g d)) (ag1_Wf hf hd) (nI_1 d) (by rw [dep_ag1]; omega) (by omega)
        rw [rW_rW] at h2
        exact h2
      · rw [if_neg c1]
        have e : ag1 g d = g := if_neg c1
        rw [ih k (d + 1) w g (nI d + 1) hR hf (nI_1 d) (by omega) (by omega), agN, e]
theorem R_pass_loop : ∀ (m n k : Nat) (w : A_W) (g : Nat → Int32) (x y : Int32), RC w t g → Wf g → x = nI (n + k) → y = nI k → n + k ≤ 100000 → n < m → F_R_passDays_2 m t x y w = some (rW w t (GON n g)) := by
  intro m
  induction m with
  | zero => intro n k w g x y _ _ _ _ _ hk; exact absurd hk (by omega)
  | succ m ih =>
    intro n k w g x y hR hf hx hy hb hn
    rw [F_R_passDays_2, hx, hy]
    cases n with
    | zero =>
      rw [if_pos (nI_le (by omega) (by omega))]
      show some w = some (rW w t g)
      rw [hR.rW_id]
    | succ n =>
      rw [if_neg (fun z => by rw [nI_leI (by omega) (by omega)] at z; omega)]
      simp only [hR.ob_, Option.bind_some, R_letStand hR hf]
      have hs := stn_Wf hf
      have h1 := hR.set (stn g)
      obtain ⟨n1, d1, b1⟩ := Wf_nat hs (i := 1) (by omega) (by omega) rfl
      have b1 : (n1 : Int) ≤ 99999 := b1
      have cb := cas_bd hs
      have j1 : jmin (stn g 1 + cas (stn g)) 99999 = hld (stn g 1 + cas (stn g)) 0 99999 := by
        refine (hld_jmin ?_).symm
        rw [nn_add (by rw [d1, nI_toInt (by omega)]; omega) cb.1 (by rw [d1, nI_toInt (by omega)]; omega), d1, nI_toInt (by omega)]
        omega
      simp only [h1.gi1, Option.bind_some, h1.ob_, R_costTogether h1 hs, h1.pf_ (j := 1) (by omega), j1, rW_rW]
      have ef : fee (stn g) = upd (stn g) 1 (hld (stn g 1 + cas (stn g)) 0 99999) := rfl
      rw [← ef]
      have h8 := Wf_dep hf
      have ed : dep (fee (stn g)) = dep g := (dep_fee _).trans (dep_stn hf)
      rw [R_pass_inner (t := t) _ _ _ FU (dep g) 0 _ _ 0 (hR.set (fee (stn g))) (fee_Wf hs) rfl (by omega) (by unfold FU; omega), rW_rW]
      have eG : dayUp (agN (dep g) 0 (fee (stn g))) = GOES g := rfl
      rw [eG]
      have h3 := ih n (k + 1) _ _ (nI (n + 1 + k)) (nI k + 1) (hR.set (GOES g)) (GOES_Wf hf) (by congr 1; omega) (nI_1 k) (by omega) (by omega)
      rw [rW_rW] at h3
      exact h3
theorem R_passDays (hR : RC w t g) (hf : Wf g) {n : Nat} (hn : n < 100000) {x : Int32} (hx : x = nI n) : F_R_passDays t x w = some (rW w t (GON n g)) := by
  unfold F_R_passDays F_R_passDays_0
  exact R_pass_loop FU n 0 w g x 0 hR hf hx rfl (by omega) (by unfold FU; omega)
end RDY
