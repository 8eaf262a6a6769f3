/-! NIGHTS BY DRAWS -/
def dz (z : Int32) : Int32 := (z * 1103515245) + 12345
def du (z : Int32) : Nat := z.toBitVec.toNat / 256
theorem du_lt (z : Int32) : du z < 16777216 := by unfold du; have := z.toBitVec.isLt; omega
theorem du_e (z : Int32) : (Int32.toUInt32 z >>> (Int32.toUInt32 8 &&& Int32.toUInt32 31)).toInt32 = nI (du z) := by
  apply Int32.toBitVec_inj.mp
  apply BitVec.eq_of_toNat_eq
  rw [pk_ushr z 8 8 (by decide), pk_tn (Nat.lt_trans (du_lt z) (by decide))]
  rfl
def niF (f : Nat → Int32) : Nat → Int32 := upd (upd f 2 (dz (dz (f 2)))) (5 + (f 0).toNatClampNeg % 6) (nI (100 * (du (dz (f 2)) % 6) + du (dz (dz (f 2))) % 16))
def ngN : Nat → (Nat → Int32) → Nat → Int32
  | 0, f => f
  | k + 1, f => ngN k (GOES (niF f))
theorem niF_Wf {f : Nat → Int32} (h : Wf f) : Wf (niF f) := by
  unfold niF
  have h1 : Wf (upd f 2 (dz (dz (f 2)))) := Wf_upd h (by omega) (by omega) (fun z => absurd rfl z) (fun _ _ => by omega)
  have hj : (f 0).toNatClampNeg % 6 < 6 := Nat.mod_lt _ (by omega)
  have ha : du (dz (f 2)) % 6 < 6 := Nat.mod_lt _ (by omega)
  have hb : du (dz (dz (f 2))) % 16 < 16 := Nat.mod_lt _ (by omega)
  refine Wf_upd h1 (by omega) (by omega) (fun _ => ?_) (fun _ _ => ?_)
  · rw [hiB_li _ hj, nI_toInt (by omega)]; omega
  · rw [nI_toInt (by omega)]; omega
theorem ngN_Wf : ∀ (n : Nat) (f : Nat → Int32), Wf f → Wf (ngN n f) := by
  intro n; induction n with
  | zero => intro f h; exact h
  | succ n ih => intro f h; exact ih _ (GOES_Wf (niF_Wf h))
theorem R_draw {w : A_W} {t : Nat} {g : Nat → Int32} (hR : RC w t g) : F_R_draw t w = some (nI (du (dz (g 2))), rW w t (upd g 2 (dz (g 2)))) := by
  unfold F_R_draw F_R_draw_0
  have T := hR.set (upd g 2 (dz (g 2)))
  have hp := hR.pf_ (j := 2) (by omega) (dz (g 2))
  unfold dz at hp T ⊢
  simp only [hR.gi2, Option.bind_some, hp, T.gi2, upd_s, du_e]
theorem M_draw {w : A_W} {h : Nat → Nat → Int32} {s : Nat → Int32} (hM : MM w h s) : F_M_draw 49 w = some (nI (du (dz (h 0 2))), mW w 0 (upd (h 0) 2 (dz (h 0 2)))) := by
  unfold F_M_draw F_M_draw_0
  have T := hM.st0 (upd (h 0) 2 (dz (h 0 2)))
  have hp := hM.wr0 (i := 2) (x := 2) (by omega) rfl (dz (h 0 2))
  have hr := T.rd0 (i := 2) (x := 2) (by omega) rfl
  rw [hset_self, upd_s] at hr
  unfold dz at hp T hr ⊢
  simp only [hM.gr0, Option.bind_some, hM.rd0 (i := 2) (x := 2) (by omega) rfl, hp, T.gr0, hr, du_e]
theorem day_n {f : Nat → Int32} (hf : Wf f) : jrem (f 0) 6 = nI ((f 0).toNatClampNeg % 6) := by
  obtain ⟨-, -, -, e4, e5⟩ := stI_n hf
  conv => lhs; rw [e4]
  exact jrem_nI (b := 6) (by omega) (by omega) (by omega)
theorem li_c (a b : Nat) : (100 : Int32) * nI a + nI b = nI (100 * a + b) := by rw [show (100 : Int32) * nI a = nI (100 * a) from pk_mul 100 a, nI_add]
theorem K_night_loop {lk : Int32} {fd b z c q tp : Nat → Int32} {N : Nat} (hN : N ≤ 100) : ∀ (m k d : Nat) (w : A_W) (f : Nat → Int32) (x : Int32), KX w lk fd b z c q tp → RC w 1 f → Wf f → x = nI d → d + k = N → k < m → F_K_night_38 m 0 (nI N) x w = some (sms (ngN k f) 2, rW w 1 (ngN k f)) := by
  intro m
  induction m with
  | zero => intro k d w f x _ _ _ _ _ hk; exact absurd hk (by omega)
  | succ m ih =>
    intro k d w f x K R hf hx hk hm
    rw [F_K_night_38, hx]
    cases k with
    | zero =>
      rw [if_pos (nI_le (by omega) (by omega))]
      simp only [K.g0, R.ob_, Option.bind_some, R_metTogether R hf]
      rw [ngN, R.rW_id]
    | succ k =>
      rw [if_neg (fun z => by rw [nI_leI (by omega) (by omega)] at z; omega)]
      have KT : ∀ f, KX (rW w 1 f) lk fd b z c q tp := fun f => KX_rW K (t := 1) (by omega) (by omega) f
      have RT : ∀ f, RC (rW w 1 f) 1 f := fun f => R.set f
      have d2 := R_draw (RT (upd f 2 (dz (f 2))))
      rw [rW_rW, upd_s, upd_u] at d2
      have j1 : jrem (nI (du (dz (f 2)))) 6 = nI (du (dz (f 2)) % 6) := jrem_nI (b := 6) (by have := du_lt (dz (f 2)); omega) (by omega) (by omega)
      have j2 : jrem (nI (du (dz (dz (f 2))))) 16 = nI (du (dz (dz (f 2))) % 16) := jrem_nI (b := 16) (by have := du_lt (dz (dz (f 2))); omega) (by omega) (by omega)
      have e0 : (upd f 2 (dz (dz (f 2)))) 0 = f 0 := upd_n (by omega)
      have hj : (f 0).toNatClampNeg % 6 < 6 := Nat.mod_lt _ (by omega)
      have hw := (RT (upd f 2 (dz (dz (f 2))))).a_wr_list hj (x := nI ((f 0).toNatClampNeg % 6)) rfl (nI (100 * (du (dz (f 2)) % 6) + du (dz (dz (f 2))) % 16))
      rw [rW_rW] at hw
      have hp := R_passDays (RT (niF f)) (niF_Wf hf) (n := 1) (x := 1) (by omega) rfl
      rw [rW_rW] at hp
      unfold niF at hp
      have e9 := (RT (upd f 2 (dz (dz (f 2))))).gi0
      rw [e0] at e9
      simp only [K.g0, R.ob_, Option.bind_some, R_draw R, (KT _).g0, (RT _).ob_, d2, (RT _).a_gr5, e9, day_n hf, K_standOf, j1, j2, li_c, hw, hp]
      have h3 := ih k (d + 1) _ _ (nI d + 1) (KT (GON 1 (niF f))) (RT _) (GON_Wf 1 _ (niF_Wf hf)) (nI_1 d) (by omega) (by omega)
      rw [rW_rW] at h3
      exact h3
theorem M_night_loop {s : Nat → Int32} {N : Nat} (hN : N ≤ 100) : ∀ (m k d : Nat) (w : A_W) (h : Nat → Nat → Int32) (x : Int32), MM w h s → Wf (h 0) → x = nI d → d + k = N → k < m → F_M_night_39 m 49 (nI N) x w = some (sms (ngN k (h 0)) 2, mW w 0 (ngN k (h 0))) := by
  intro m
  induction m with
  | zero => intro k d w h x _ _ _ _ hk; exact absurd hk (by omega)
  | succ m ih =>
    intro k d w h x M hf hx hk hm
    rw [F_M_night_39, hx]
    cases k with
    | zero =>
      rw [if_pos (nI_le (by omega) (by omega))]
      simp only [M.ob_, Option.bind_some, M_sums M hf (e := 2) (x := 2) (by omega) rfl]
      rw [ngN, M.mW_id (by omega)]
    | succ k =>
      rw [if_neg (fun z => by rw [nI_leI (by omega) (by omega)] at z; omega)]
      have T := M.st0
      have d2 := M_draw (T (upd (h 0) 2 (dz (h 0 2))))
      rw [hset_self, mW_mW, upd_s, upd_u] at d2
      have j1 : jrem (nI (du (dz (h 0 2)))) 6 = nI (du (dz (h 0 2)) % 6) := jrem_nI (b := 6) (by have := du_lt (dz (h 0 2)); omega) (by omega) (by omega)
      have j2 : jrem (nI (du (dz (dz (h 0 2))))) 16 = nI (du (dz (dz (h 0 2))) % 16) := jrem_nI (b := 16) (by have := du_lt (dz (dz (h 0 2))); omega) (by omega) (by omega)
      have r0 := (T (upd (h 0) 2 (dz (h 0 2)))).rd0 (i := 0) (x := 0) (by omega) rfl
      rw [hset_self, upd_n (by omega)] at r0
      have hj : (h 0 0).toNatClampNeg % 6 < 6 := Nat.mod_lt _ (by omega)
      have hw := (T (upd (h 0) 2 (dz (dz (h 0 2))))).wr0 (i := 5 + (h 0 0).toNatClampNeg % 6) (by omega) (n5 rfl) (nI (100 * (du (dz (h 0 2)) % 6) + du (dz (dz (h 0 2))) % 16))
      rw [hset_self, mW_mW] at hw
      have hp := M_goes (T (niF (h 0))) (by rw [hset_self]; exact niF_Wf hf)
      rw [hset_self, mW_mW] at hp
      unfold niF at hp
      have To : ∀ f, ob (mW w 0 f) 49 4 = some (mfs s) := fun f => (T f).ob_
      simp only [M.ob_, Option.bind_some, M_draw M, (T _).gr0, (T _).ob_, r0, d2, day_n hf, j1, j2, li_c, hw, hp]
      have h3 := ih k (d + 1) _ _ (nI d + 1) (T (GOES (niF (h 0)))) (by rw [hset_self]; exact GOES_Wf (niF_Wf hf)) (nI_1 d) (by omega) (by omega)
      rw [hset_self, mW_mW] at h3
      exact h3
theorem st25 : St25 Rel := by
  intro a1 w ⟨h, s, g2, g3, q, R, G⟩
  by_cases c1 : 1 ≤ a1 ∧ a1 ≤ 20
  · by_cases c2 : h 0 0 + a1 ≤ 99999
    · have c1' := c1
      obtain ⟨k, -, hk, rfl⟩ := btw (m := 1) (n := 20) rfl rfl (by omega) (by omega) c1'
      refine SP_row R G (f := ngN k (h 0)) (ngN_Wf k _ G.1) (r1 := sms (ngN k (h 0)) 2) (r2 := sms (ngN k (h 0)) 2) ?_ (fun M => ?_) rfl
      · unfold F_K_night F_K_night_0
        simp only [K_within, K_isHanger, K_isKind, K_isSpot, K_isSheet, R_hasDeposit R.2.2.1, R_hasGirl R.2.2.1, R.kg0, R.kg1, R.kob, R.2.2.1.ob_, Option.bind_some, bI_0]
        rw [if_neg (fun z => z c1)]
        simp only [K_within, K_isHanger, K_isKind, K_isSpot, K_isSheet, R_hasDeposit R.2.2.1, R_hasGirl R.2.2.1, R.kg0, R.kg1, R.kob, R.2.2.1.ob_, Option.bind_some, bI_0, R.2.2.1.gi0]
        rw [if_pos c2]
        exact K_night_loop (N := k) (by omega) FU k 0 w (h 0) 0 R.2.1 R.2.2.1 G.1 rfl (by omega) (by unfold FU; omega)
      · unfold F_M_night F_M_night_0
        simp only [M_in, M_isHanger, M_isPlace, M_isDeposit M, M_isGirl M, M.ob_, M.gr0, Option.bind_some, bI_0]
        rw [if_neg (fun z => z c1)]
        simp only [M_in, M_isHanger, M_isPlace, M_isDeposit M, M_isGirl M, M.ob_, M.gr0, Option.bind_some, bI_0, M.rd0 (i := 0) (x := 0) (by omega) rfl]
        rw [if_pos c2]
        exact M_night_loop (N := k) (by omega) FU k 0 _ h 0 M G.1 rfl (by omega) (by unfold FU; omega)
    · refine SP_fd R G (i := 4) (r1 := (-1000001) - 4) (r2 := (-1000005)) ?_ (fun M => ?_) (by decide)
      · unfold F_K_night F_K_night_0
        simp only [K_within, K_isHanger, K_isKind, K_isSpot, K_isSheet, R_hasDeposit R.2.2.1, R_hasGirl R.2.2.1, R.kg0, R.kg1, R.kob, R.2.2.1.ob_, Option.bind_some, bI_0]
        rw [if_neg (fun z => z c1)]
        simp only [K_within, K_isHanger, K_isKind, K_isSpot, K_isSheet, R_hasDeposit R.2.2.1, R_hasGirl R.2.2.1, R.kg0, R.kg1, R.kob, R.2.2.1.ob_, Option.bind_some, bI_0, R.2.2.1.gi0]
        rw [if_neg c2]
        simp only [K_within, K_isHanger, K_isKind, K_isSpot, K_isSheet, R_hasDeposit R.2.2.1, R_hasGirl R.2.2.1, R.kg0, R.kg1, R.kob, R.2.2.1.ob_, Option.bind_some, bI_0, K_finding R (i := 4) (x := 4) (by omega) rfl]
      · unfold F_M_night F_M_night_0
        simp only [M_in, M_isHanger, M_isPlace, M_isDeposit M, M_isGirl M, M.ob_, M.gr0, Option.bind_some, bI_0]
        rw [if_neg (fun z => z c1)]
        simp only [M_in, M_isHanger, M_isPlace, M_isDeposit M, M_isGirl M, M.ob_, M.gr0, Option.bind_some, bI_0, M.rd0 (i := 0) (x := 0) (by omega) rfl]
        rw [if_neg c2]
        simp only [M_in, M_isHanger, M_isPlace, M_isDeposit M, M_isGirl M, M.ob_, M.gr0, Option.bind_some, bI_0, M_finds M (i := 4) (v := -1000005) (by omega) (by decide)]
  · refine SP_fd R G (i := 0) (r1 := (-1000001) - 0) (r2 := (-1000001)) ?_ (fun M => ?_) (by decide)
    · unfold F_K_night F_K_night_0
      simp only [K_within, K_isHanger, K_isKind, K_isSpot, K_isSheet, R_hasDeposit R.2.2.1, R_hasGirl R.2.2.1, R.kg0, R.kg1, R.kob, R.2.2.1.ob_, Option.bind_some, bI_0]
      rw [if_pos c1]
      simp only [K_within, K_isHanger, K_isKind, K_isSpot, K_isSheet, R_hasDeposit R.2.2.1, R_hasGirl R.2.2.1, R.kg0, R.kg1, R.kob, R.2.2.1.ob_, Option.bind_some, bI_0, K_finding R (i := 0) (x := 0) (by omega) rfl]
    · unfold F_M_night F_M_night_0
      simp only [M_in, M_isHanger, M_isPlace, M_isDeposit M, M_isGirl M, M.ob_, M.gr0, Option.bind_some, bI_0]
      rw [if_pos c1]
      simp only [M_in, M_isHanger, M_isPlace, M_isDeposit M, M_isGirl M, M.ob_, M.gr0, Option.bind_some, bI_0, M_finds M (i := 0) (v := (-1000001)) (by omega) (by decide)]
/-! THE TAPE IS FED -/
def byt (x : Int32) (k : Nat) : Int32 := nI (x.toBitVec.toNat / 2 ^ (8 * k) % 256)
theorem byt_u (x : Int32) {k : Nat} (hk : k < 4) : ((Int32.toUInt32 x >>> (Int32.toUInt32 (8 * nI k) &&& Int32.toUInt32 31)).toInt32 &&& 255) = byt x k := by
  have hs : ((Int32.toUInt32 (8 * nI k) &&& Int32.toUInt32 31).toBitVec % 32).toNat = 8 * k := by
    rcases (show k = 0 ∨ k = 1 ∨ k = 2 ∨ k = 3 by omega) with rfl | rfl | rfl | rfl <;> decide
  rw [pk_and _ 8 (m := 255) (by decide), pk_ushr x (8 * nI k) (8 * k) hs]
  rfl
theorem toInt_c (x : Int32) : x.toInt = (x.toBitVec.toNat : Int) ∨ x.toInt = (x.toBitVec.toNat : Int) - 4294967296 := by
  have h := BitVec.toInt_eq_toNat_cond x.toBitVec
  have e : x.toInt = x.toBitVec.toInt := rfl
  rw [e, h]
  split
  · exact Or.inl rfl
  · exact Or.inr rfl
theorem byt_s (x : Int32) {k : Nat} (hk : k < 4) : ((x >>> ((8 * nI k) &&& 31)) &&& 255) = byt x k := by
  have hs : (((8 * nI k) &&& 31 : Int32).toBitVec.smod 32).toNat = 8 * k := by
    rcases (show k = 0 ∨ k = 1 ∨ k = 2 ∨ k = 3 by omega) with rfl | rfl | rfl | rfl <;> decide
  rw [pk_and _ 8 (m := 255) (by decide)]
  have e := pk_shr x ((8 * nI k) &&& 31) (8 * k) hs
  rw [Int.shiftRight_eq_div_pow] at e
  have h1 := toInt_c x
  have h2 := toInt_c (x >>> ((8 * nI k) &&& 31))
  unfold byt
  congr 1
  have hx := x.toBitVec.isLt
  rcases (show k = 0 ∨ k = 1 ∨ k = 2 ∨ k = 3 by omega) with rfl | rfl | rfl | rfl
  · have p : (2 : Nat) ^ (8 * 0) = 1 := rfl
    rw [p] at e ⊢; simp only [Int.natCast_one, Nat.div_one, Int.ediv_one] at e ⊢; omega
  · have p : (2 : Nat) ^ (8 * 1) = 256 := rfl
    rw [p] at e ⊢; omega
  · have p : (2 : Nat) ^ (8 * 2) = 65536 := rfl
    rw [p] at e ⊢; omega
  · have p : (2 : Nat) ^ (8 * 3) = 16777216 := rfl
    rw [p] at e ⊢; omega
theorem byt_bd (x : Int32) (k : Nat) : 0 ≤ (byt x k).toInt ∧ (byt x k).toInt ≤ 255 := by
  unfold byt
  have : x.toBitVec.toNat / 2 ^ (8 * k) % 256 < 256 := Nat.mod_lt _ (by omega)
  rw [nI_toInt (by omega)]; omega
def fdN (x : Int32) : Nat → Nat → (Nat → Int32) → Nat → Int32
  | 0, _, tp => tp
  | k + 1, n, tp => fdN x k (n + 1) (upd tp n (byt x k))
theorem fdN_bd (x : Int32) : ∀ (k n : Nat) (tp : Nat → Int32), (∀ i, i < 120 → 0 ≤ (tp i).toInt ∧ (tp i).toInt ≤ 255) → ∀ i, i < 120 → 0 ≤ (fdN x k n tp i).toInt ∧ (fdN x k n tp i).toInt ≤ 255 := by
  intro k
  induction k with
  | zero => intro n tp h; exact h
  | succ k ih =>
    intro n tp h
    refine ih (n + 1) _ (fun i hi => ?_)
    unfold upd
    split
    · exact byt_bd x k
    · exact h i hi
theorem set_id {w : A_W} {a : Nat} {c : A_E} (h : w[a]? = some c) : w.set a c = w := by
  refine List.ext_getElem? fun j => ?_
  by_cases e : j = a
  · subst e; rw [List.getElem?_set_self (List.getElem?_eq_some_iff.mp h).1, h]
  · rw [List.getElem?_set_ne (Ne.symm e)]
theorem MM.mP_id {w : A_W} {h : Nat → Nat → Int32} {s : Nat → Int32} (hM : MM w h s) : mP w s = w := set_id hM.1
theorem mP_mW (w : A_W) {a : Nat} (s g : Nat → Int32) : mW (mP w s) a g = mP (mW w a g) s := by unfold mW mP; exact List.set_comm _ _ (by omega)
theorem K_feed_loop (x : Int32) : ∀ (m k n : Nat) (w : A_W) (y lk : Int32) (fd b z c q tp : Nat → Int32), KX w lk fd b z c q tp → q 0 = nI n → y = nI k - 1 → k ≤ 4 → n + k ≤ 120 → k < m → F_K_feed_39 m 0 x y w = some (nI (n + k), dW (bW w (fdN x k n tp)) (upd q 0 (nI (n + k)))) := by
  intro m
  induction m with
  | zero => intro k n w y lk fd b z c q tp _ _ _ _ _ hk; exact absurd hk (by omega)
  | succ m ih =>
    intro k n w y lk fd b z c q tp K hq hy hk4 hn hk
    have g4 : gr w 0 0 4 = some 37 := by unfold gr gf; rw [K.1]; rfl
    rw [F_K_feed_39, hy]
    cases k with
    | zero =>
      rw [if_pos (by decide)]
      simp only [g4, Option.bind_some, D_g1 K.2.1, hq]
      rw [fdN, show upd q 0 (nI (n + 0)) = q by rw [Nat.add_zero, ← hq]; exact upd_i q 0]
      unfold bW dW
      rw [set_id K.2.2.1, set_id K.2.1]
      rfl
    | succ k =>
      rw [nI_pred, if_neg (nI_pos (by omega))]
      have K1 := KX_dW K (upd q 0 (nI (n + 1)))
      have K2 := KX_bW K1 (upd tp n (byt x k))
      have ea : F_D_append 37 (byt x k) w = some (bW (dW w (upd q 0 (nI (n + 1)))) (upd tp n (byt x k))) := by
        unfold F_D_append F_D_append_0
        have hwr : wr (dW w (upd q 0 (nI (n + 1)))) 38 (nI n) (byt x k) = some (bW (dW w (upd q 0 (nI (n + 1)))) (upd tp n (byt x k))) := by
          unfold wr
          rw [K1.2.2.1]
          show (if inb (nI n) 120 then some ((dW w (upd q 0 (nI (n + 1)))).set 38 (.inl (120, upd tp (nI n).toNatClampNeg (byt x k)))) else none) = _
          rw [if_pos (inb_nI (by omega) (by omega)), nI_clamp (by omega)]
          rfl
        simp only [D_g0 K.2.1, D_g1 K.2.1, Option.bind_some, hq, nI_1, D_pf K.2.1 (k := 0) (by omega), hwr]
      simp only [g4, Option.bind_some, D_ob K.2.1, byt_u x (show k < 4 by omega), ea]
      have h3 := ih k (n + 1) _ (nI k + (-1)) lk fd b z c _ _ K2 rfl (Int32.sub_eq_add_neg ..).symm (by omega) (by omega) (by omega)
      rw [h3, bW_bW, dW_bW, dW_dW, upd_u, show n + 1 + k = n + (k + 1) by omega]
      rfl
theorem M_feed_loop (x : Int32) : ∀ (m k n : Nat) (w : A_W) (y : Int32) (h : Nat → Nat → Int32) (s : Nat → Int32), MM w h s → s 9 = nI n → y = nI k - 1 → k ≤ 4 → n + k ≤ 120 → k < m → F_M_feed_38 m 49 x y w = some (nI (n + k), mP (mW w 7 (fdN x k n (h 7))) (upd s 9 (nI (n + k)))) := by
  intro m
  induction m with
  | zero => intro k n w y h s _ _ _ _ _ hk; exact absurd hk (by omega)
  | succ m ih =>
    intro k n w y h s M hq hy hk4 hn hk
    rw [F_M_feed_38, hy]
    cases k with
    | zero =>
      rw [if_pos (by decide)]
      simp only [M.gi9, Option.bind_some, hq]
      rw [fdN, show upd s 9 (nI (n + 0)) = s by rw [Nat.add_zero, ← hq]; exact upd_i s 9, M.mW_id (by omega), M.mP_id]
      rfl
    | succ k =>
      rw [nI_pred, if_neg (nI_pos (by omega))]
      have hwr : wr w 57 (nI n) (byt x k) = some (mW w 7 (upd (h 7) n (byt x k))) := M.wrN (a := 7) (by omega) (show n < 120 by omega) (by decide) rfl _
      have M1 := M.set (a := 7) (by omega) (upd (h 7) n (byt x k))
      have M2 := M1.setP (upd s 9 (nI (n + 1)))
      simp only [M.gr8, M.gi9, Option.bind_some, hq, byt_s x (show k < 4 by omega), hwr, M1.gi9, M1.pf_ (k := 9) (by omega), nI_1]
      have h3 := ih k (n + 1) _ (nI k + (-1)) _ _ M2 rfl (Int32.sub_eq_add_neg ..).symm (by omega) (by omega) (by omega)
      rw [h3, hset_self, mP_mW, mW_mW, mP_mP, upd_u, show n + 1 + k = n + (k + 1) by omega]
      rfl
theorem st28 : St28 Rel := by
  intro a1 a2 w ⟨h, s, g2, g3, q, R, G⟩
  have D := R.2.1.2.1
  by_cases c1 : 1 ≤ a2 ∧ a2 ≤ 4
  · by_cases c2 : s 9 + a2 ≤ 120
    · have c1' := c1
      obtain ⟨k, hk1, hk, rfl⟩ := btw (m := 1) (n := 4) rfl rfl (by omega) (by omega) c1'
      obtain ⟨G1, G2, G3, G4, ⟨n, hn, en⟩, G6, G7⟩ := G
      have hnk : n + k ≤ 120 := by
        have c3 := c2
        rw [en, nI_add] at c3
        exact (nI_leI (b := 120) (by omega) (by omega)).mp c3
      have kf := K_feed_loop a1 FU k n w (nI k - 1) _ _ _ _ _ _ _ R.2.1 (by rw [G6, en]) rfl hk hnk (by unfold FU; omega)
      have M1 : MM (dW (bW w (fdN a1 k n (h 7))) (upd q 0 (nI (n + k)))) h s := MM_dW (MM_bW R.1 _) _
      have mf := M_feed_loop a1 FU k n _ (nI k - 1) h s M1 en rfl hk hnk (by unfold FU; omega)
      refine ⟨(nI (n + k), dW (bW w (fdN a1 k n (h 7))) (upd q 0 (nI (n + k)))), (nI (n + k), mP (mW (dW (bW w (fdN a1 k n (h 7))) (upd q 0 (nI (n + k)))) 7 (fdN a1 k n (h 7))) (upd s 9 (nI (n + k)))), ?_, ?_, rfl, ?_, _, M1.ob_⟩
      · unfold F_K_feed F_K_feed_0
        simp only [K_within, K_isHanger, K_isKind, K_isSpot, K_isSheet, R_hasDeposit R.2.2.1, R_hasGirl R.2.2.1, R.kg0, R.kg1, R.kob, R.2.2.1.ob_, Option.bind_some, bI_0]
        rw [if_neg (fun z => z c1)]
        simp only [K_within, K_isHanger, K_isKind, K_isSpot, K_isSheet, R_hasDeposit R.2.2.1, R_hasGirl R.2.2.1, R.kg0, R.kg1, R.kob, R.2.2.1.ob_, Option.bind_some, bI_0, R.kg4, D_g1 D, G6]
        rw [if_pos c2]
        exact kf
      · unfold F_M_feed F_M_feed_0
        simp only [M_in, Option.bind_some, bI_0]
        rw [if_neg (fun z => z c1)]
        simp only [M1.gi9, Option.bind_some]
        rw [if_pos c2]
        exact mf
      · have F := (mW_Fr (dW (bW w (fdN a1 k n (h 7))) (upd q 0 (nI (n + k)))) 7 (fdN a1 k n (h 7))).tr (mP_Fr _ (upd s 9 (nI (n + k))))
        have e : ∀ a, a ≠ 7 → hset h 7 (fdN a1 k n (h 7)) a = h a := fun a ha => hset_ne h _ ha
        have rr : ∀ {t : Nat} {g : Nat → Int32}, RC w t g → t + 11 < 37 → RC (mP (mW (dW (bW w (fdN a1 k n (h 7))) (upd q 0 (nI (n + k)))) 7 (fdN a1 k n (h 7))) (upd s 9 (nI (n + k)))) t g := fun hR ht => RC_Fr (RC_dW (RC_bW hR ht _) ht _) (by omega) F
        refine ⟨hset h 7 (fdN a1 k n (h 7)), upd s 9 (nI (n + k)), g2, g3, upd q 0 (nI (n + k)), ⟨(M1.set (by omega) _).setP _, ?_, ?_, rr R.2.2.2.1 (by omega), rr R.2.2.2.2 (by omega)⟩, ?_, ?_, ?_, ?_, ⟨n + k, hnk, rfl⟩, rfl, ?_⟩
        · rw [upd_n (by omega), e 3 (by omega), e 4 (by omega), e 5 (by omega), e 6 (by omega), hset_self]
          exact KX_Fr (KX_dW (KX_bW R.2.1 _) _) F
        · rw [e 0 (by omega)]; exact rr R.2.2.1 (by omega)
        · rw [e 0 (by omega)]; exact G1
        · rw [upd_n (by omega)]; exact G2
        · rw [upd_n (by omega), e 1 (by omega)]; exact G3
        · rw [e 4 (by omega), e 5 (by omega)]; exact G4
        · rw [hset_self]; exact fdN_bd a1 k n _ G7
    · refine SP_fd R G (i := 1) (r1 := (-1000001) - 1) (r2 := (-1000002)) ?_ (fun M => ?_) (by decide)
      · unfold F_K_feed F_K_feed_0
        simp only [K_within, K_isHanger, K_isKind, K_isSpot, K_isSheet, R_hasDeposit R.2.2.1, R_hasGirl R.2.2.1, R.kg0, R.kg1, R.kob, R.2.2.1.ob_, Option.bind_some, bI_0]
        rw [if_neg (fun z => z c1)]
        simp only [K_within, K_isHanger, K_isKind, K_isSpot, K_isSheet, R_hasDeposit R.2.2.1, R_hasGirl R.2.2.1, R.kg0, R.kg1, R.kob, R.2.2.1.ob_, Option.bind_some, bI_0, R.kg4, D_g1 D, G.2.2.2.2.2.1]
        rw [if_neg c2]
        simp only [K_within, K_isHanger, K_isKind, K_isSpot, K_isSheet, R_hasDeposit R.2.2.1, R_hasGirl R.2.2.1, R.kg0, R.kg1, R.kob, R.2.2.1.ob_, Option.bind_some, bI_0, K_finding R (i := 1) (x := 1) (by omega) rfl]
      · unfold F_M_feed F_M_feed_0
        simp only [M_in, M_isHanger, M_isPlace, M_isDeposit M, M_isGirl M, M.ob_, M.gr0, Option.bind_some, bI_0]
        rw [if_neg (fun z => z c1)]
        simp only [M_in, M_isHanger, M_isPlace, M_isDeposit M, M_isGirl M, M.ob_, M.gr0, Option.bind_some, bI_0, M.gi9]
        rw [if_neg c2]
        simp only [M_in, M_isHanger, M_isPlace, M_isDeposit M, M_isGirl M, M.ob_, M.gr0, Option.bind_some, bI_0, M_finds M (i := 1) (v := -1000002) (by omega) (by decide)]
  · refine SP_fd R G (i := 0) (r1 := (-1000001) - 0) (r2 := (-1000001)) ?_ (fun M => ?_) (by decide)
    · unfold F_K_feed F_K_feed_0
      simp only [K_within, K_isHanger, K_isKind, K_isSpot, K_isSheet, R_hasDeposit R.2.2.1, R_hasGirl R.2.2.1, R.kg0, R.kg1, R.kob, R.2.2.1.ob_, Option.bind_some, bI_0]
      rw [if_pos c1]
      simp only [K_within, K_isHanger, K_isKind, K_isSpot, K_isSheet, R_hasDeposit R.2.2.1, R_hasGirl R.2.2.1, R.kg0, R.kg1, R.kob, R.2.2.1.ob_, Option.bind_some, bI_0, K_finding R (i := 0) (x := 0) (by omega) rfl]
    · unfold F_M_feed F_M_feed_0
      simp only [M_in, M_isHanger, M_isPlace, M_isDeposit M, M_isGirl M, M.ob_, M.gr0, Option.bind_some, bI_0]
      rw [if_pos c1]
      simp only [M_in, M_isHanger, M_isPlace, M_isDeposit M, M_isGirl M, M.ob_, M.gr0, Option.bind_some, bI_0, M_finds M (i := 0) (v := (-1000001)) (by omega) (by decide)]
