/-! THE FIRST WITH A STUB -/
def fl (f : Nat → Int32) (v : Int32) : Nat → Nat → Option Nat
  | 0, _ => none
  | k + 1, d => if f (13 + 6 * d) = v ∧ f (16 + 6 * d) = 0 then some d else fl f v k (d + 1)
def oI : Option Nat → Int32
  | none => -1
  | some j => nI j
theorem fl_lt {f : Nat → Int32} {v : Int32} : ∀ (k d j : Nat), fl f v k d = some j → d ≤ j ∧ j < d + k := by
  intro k
  induction k with
  | zero => intro d j h; exact absurd h (by rw [fl]; simp)
  | succ k ih =>
    intro d j h
    rw [fl] at h
    split at h
    · have := Option.some.inj h; omega
    · have := ih _ _ h; omega
section CAL
variable {w : A_W} {h : Nat → Nat → Int32} {s : Nat → Int32} {g2 g3 q : Nat → Int32}
theorem K_call_loop (R : RelX w h s g2 g3 q) (hf : Wf (h 0)) (v : Int32) : ∀ (n k d : Nat) (x : Int32), x = nI d → d + k = dep (h 0) → k < n → F_K_call_18 n 0 v x w = match fl (h 0) v k d with | some j => some (nI j, rW w 1 (upd (h 0) (16 + 6 * j) 1)) | none => some ((-1000001) - 3, fW w (bmp h 3)) := by
  intro n
  induction n with
  | zero => intro k d x _ _ hk; exact absurd hk (by omega)
  | succ n ih =>
    intro k d x hx hk hn
    obtain ⟨h8, h3⟩ := Wf_dep hf
    rw [F_K_call_18]
    simp only [R.kg0, Option.bind_some, R.2.2.1.gi3]
    rw [h3, hx]
    cases k with
    | zero =>
      rw [if_pos (nI_le (by omega) (by omega))]
      simp only [K_within, K_isHanger, K_isKind, K_isSpot, K_isSheet, R_hasDeposit R.2.2.1, R_hasGirl R.2.2.1, R.kg0, R.kg1, R.kob, R.2.2.1.ob_, Option.bind_some, bI_0, K_finding R (i := 3) (x := 3) (by omega) rfl]
      rfl
    | succ k =>
      rw [if_neg (fun z => by rw [nI_leI (by omega) (by omega)] at z; omega)]
      have hd : d < 8 := by omega
      simp only [K_within, K_isHanger, K_isKind, K_isSpot, K_isSheet, R_hasDeposit R.2.2.1, R_hasGirl R.2.2.1, R.kg0, R.kg1, R.kob, R.2.2.1.ob_, Option.bind_some, bI_0, R.2.2.1.a_gr8, R.2.2.1.a_rd_stub hd rfl, R.2.2.1.a_gr11, R.2.2.1.a_rd_out hd rfl, R.2.2.1.a_wr_out hd rfl]
      unfold F_K_call_66
      rw [fl]
      by_cases c1 : h 0 (13 + 6 * d) = v
      · rw [if_pos c1]
        by_cases c2 : h 0 (16 + 6 * d) = 0
        · rw [if_pos c2, if_pos ⟨c1, c2⟩]
        · rw [if_neg c2, if_neg (fun z => c2 z.2)]
          exact ih k (d + 1) _ (nI_1 d) (by omega) (by omega)
      · rw [if_neg c1, if_neg (fun z => c1 z.1)]
        exact ih k (d + 1) _ (nI_1 d) (by omega) (by omega)
theorem M_call_loop (hM : MM w h s) (hf : Wf (h 0)) (v : Int32) : ∀ (m n k : Nat) (x y : Int32), y = nI n - 1 → x = oI (fl (h 0) v k n) → n + k = dep (h 0) → n < m → F_M_call_28 m 49 v x y w = match fl (h 0) v (dep (h 0)) 0 with | some j => some (nI j, mW w 0 (upd (h 0) (16 + 6 * j) 1)) | none => some (-1000004, mW w 3 (bmp h 3)) := by
  intro m
  induction m with
  | zero => intro n k x y _ _ _ hk; exact absurd hk (by omega)
  | succ m ih =>
    intro n k x y hy hx hk hm
    obtain ⟨h8, h3⟩ := Wf_dep hf
    rw [F_M_call_28, hy, hx]
    cases n with
    | zero =>
      rw [if_pos (by decide)]
      rw [Nat.zero_add] at hk
      subst hk
      unfold F_M_call_73
      cases hc : fl (h 0) v (dep (h 0)) 0 with
      | none =>
        rw [if_pos (by decide)]
        simp only [M_in, M_isHanger, M_isPlace, M_isDeposit hM, M_isGirl hM, hM.ob_, hM.gr0, Option.bind_some, bI_0, oI, M_orNone_n hM]
      | some j =>
        have hj := fl_lt _ _ _ hc
        have T := hM.st0 (upd (h 0) (16 + 6 * j) 1)
        have hp := M_put hM (d := j) (e := 5) (x := nI j) (y := 5) (by omega) (by omega) rfl rfl 1
        rw [show 11 + 6 * j + 5 = 16 + 6 * j by omega] at hp
        rw [if_neg (show ¬ oI (some j) < 0 from nI_pos (by omega))]
        simp only [M_in, M_isHanger, M_isPlace, M_isDeposit hM, M_isGirl hM, hM.ob_, hM.gr0, Option.bind_some, bI_0, oI, hp, T.ob_, M_orNone_y T (k := j) (by omega)]
    | succ n =>
      rw [nI_pred, if_neg (nI_pos (by omega))]
      have hn : n < 8 := by omega
      simp only [M_in, M_isHanger, M_isPlace, M_isDeposit hM, M_isGirl hM, hM.ob_, hM.gr0, Option.bind_some, bI_0, M_isHere hM hn rfl, M_it hM hn (e := 2) (y := 2) (by omega) rfl rfl]
      rw [show 11 + 6 * n + 2 = 13 + 6 * n by omega]
      unfold F_M_call_54 F_M_call_55
      have ey : nI n + (-1) = nI n - 1 := (Int32.sub_eq_add_neg ..).symm
      by_cases c1 : h 0 (16 + 6 * n) = 0
      · rw [if_neg (fun z => z c1)]
        by_cases c2 : h 0 (13 + 6 * n) = v
        · rw [if_pos c2]
          exact ih n (k + 1) _ _ ey (by rw [fl, if_pos ⟨c2, c1⟩]; rfl) (by omega) (by omega)
        · rw [if_neg c2]
          exact ih n (k + 1) _ _ ey (by rw [fl, if_neg (fun z => c2 z.1)]) (by omega) (by omega)
      · rw [if_pos c1]
        exact ih n (k + 1) _ _ ey (by rw [fl, if_neg (fun z => c1 z.2)]) (by omega) (by omega)
end CAL
theorem st9 : St9 Rel := by
  intro a1 w ⟨h, s, g2, g3, q, R, G⟩
  by_cases c1 : 0 ≤ a1 ∧ a1 ≤ 99
  · have d8 := Wf_dep G.1
    have kl := K_call_loop R G.1 a1 FU (dep (h 0)) 0 0 rfl (by omega) (by unfold FU; omega)
    have ml := fun (w : A_W) (M : MM w h s) => M_call_loop M G.1 a1 FU (dep (h 0)) 0 (-1) (h 0 3 - 1) (by rw [d8.2]) rfl (by omega) (by unfold FU; omega)
    cases hc : fl (h 0) a1 (dep (h 0)) 0 with
    | none =>
      rw [hc] at kl ml
      refine SP_fd R G (i := 3) (r1 := (-1000001) - 3) (r2 := (-1000004)) ?_ (fun M => ?_) (by decide)
      · unfold F_K_call F_K_call_0
        simp only [K_within, K_isHanger, K_isKind, K_isSpot, K_isSheet, R_hasDeposit R.2.2.1, R_hasGirl R.2.2.1, R.kg0, R.kg1, R.kob, R.2.2.1.ob_, Option.bind_some, bI_0]
        rw [if_neg (fun z => z c1)]
        exact kl
      · unfold F_M_call F_M_call_0
        simp only [M_in, M_isHanger, M_isPlace, M_isDeposit M, M_isGirl M, M.ob_, M.gr0, Option.bind_some, bI_0, M.rd0 (i := 3) (x := 3) (by omega) rfl]
        rw [if_neg (fun z => z c1)]
        exact ml _ M
    | some j =>
      rw [hc] at kl ml
      have hj := fl_lt _ _ _ hc
      have wf := Wf_item G.1 (d := j) (e := 5) (v := 1) (by omega) (by omega) (by decide) (by decide)
      rw [show 11 + 6 * j + 5 = 16 + 6 * j by omega] at wf
      refine SP_row R G (f := upd (h 0) (16 + 6 * j) 1) wf (r1 := nI j) (r2 := nI j) ?_ (fun M => ?_) rfl
      · unfold F_K_call F_K_call_0
        simp only [K_within, K_isHanger, K_isKind, K_isSpot, K_isSheet, R_hasDeposit R.2.2.1, R_hasGirl R.2.2.1, R.kg0, R.kg1, R.kob, R.2.2.1.ob_, Option.bind_some, bI_0]
        rw [if_neg (fun z => z c1)]
        exact kl
      · unfold F_M_call F_M_call_0
        simp only [M_in, M_isHanger, M_isPlace, M_isDeposit M, M_isGirl M, M.ob_, M.gr0, Option.bind_some, bI_0, M.rd0 (i := 3) (x := 3) (by omega) rfl]
        rw [if_neg (fun z => z c1)]
        exact ml _ M
  · refine SP_fd R G (i := 0) (r1 := (-1000001) - 0) (r2 := (-1000001)) ?_ (fun M => ?_) (by decide)
    · unfold F_K_call F_K_call_0
      simp only [K_within, K_isHanger, K_isKind, K_isSpot, K_isSheet, R_hasDeposit R.2.2.1, R_hasGirl R.2.2.1, R.kg0, R.kg1, R.kob, R.2.2.1.ob_, Option.bind_some, bI_0]
      rw [if_pos c1]
      simp only [K_within, K_isHanger, K_isKind, K_isSpot, K_isSheet, R_hasDeposit R.2.2.1, R_hasGirl R.2.2.1, R.kg0, R.kg1, R.kob, R.2.2.1.ob_, Option.bind_some, bI_0, K_finding R (i := 0) (x := 0) (by omega) rfl]
    · unfold F_M_call F_M_call_0
      simp only [M_in, M_isHanger, M_isPlace, M_isDeposit M, M_isGirl M, M.ob_, M.gr0, Option.bind_some, bI_0]
      rw [if_pos c1]
      simp only [M_in, M_isHanger, M_isPlace, M_isDeposit M, M_isGirl M, M.ob_, M.gr0, Option.bind_some, bI_0, M_finds M (i := 0) (v := (-1000001)) (by omega) (by decide)]
/-! THE READER'S NUMBERS AND THE TAPE; the image is kept or torn -/
def dW (w : A_W) (q : Nat → Int32) : A_W := w.set 37 (dobj q)
def bW (w : A_W) (tp : Nat → Int32) : A_W := w.set 38 (.inl (120, tp))
def kW (w : A_W) (v : Int32) : A_W := w.set 0 (kobj v)
theorem dW_at {w : A_W} {q : Nat → Int32} {a : Nat} (ha : a ≠ 37) : (dW w q)[a]? = w[a]? := List.getElem?_set_ne (Ne.symm ha)
theorem bW_at {w : A_W} {q : Nat → Int32} {a : Nat} (ha : a ≠ 38) : (bW w q)[a]? = w[a]? := List.getElem?_set_ne (Ne.symm ha)
theorem kW_at {w : A_W} {v : Int32} {a : Nat} (ha : a ≠ 0) : (kW w v)[a]? = w[a]? := List.getElem?_set_ne (Ne.symm ha)
theorem dW_dW (w : A_W) (q u : Nat → Int32) : dW (dW w q) u = dW w u := by simp [dW]
theorem bW_bW (w : A_W) (q u : Nat → Int32) : bW (bW w q) u = bW w u := by simp [bW]
theorem dW_bW (w : A_W) (q u : Nat → Int32) : bW (dW w q) u = dW (bW w u) q := by unfold bW dW; exact List.set_comm _ _ (by omega)
theorem KX_dW {w : A_W} {lk : Int32} {fd b z c q tp : Nat → Int32} (h : KX w lk fd b z c q tp) (u : Nat → Int32) : KX (dW w u) lk fd b z c u tp := by
  obtain ⟨h1, h2, h3, ⟨f, h4, h5⟩, h6, h7⟩ := h
  exact ⟨by rw [dW_at (by omega)]; exact h1, List.getElem?_set_self (List.getElem?_eq_some_iff.mp h2).1, by rw [dW_at (by omega)]; exact h3, ⟨f, by rw [dW_at (by omega)]; exact h4, h5⟩, by rw [dW_at (by omega)]; exact h6, fun i hi => ⟨by rw [dW_at (by omega)]; exact (h7 i hi).1, by rw [dW_at (by omega)]; exact (h7 i hi).2⟩⟩
theorem KX_bW {w : A_W} {lk : Int32} {fd b z c q tp : Nat → Int32} (h : KX w lk fd b z c q tp) (u : Nat → Int32) : KX (bW w u) lk fd b z c q u := by
  obtain ⟨h1, h2, h3, ⟨f, h4, h5⟩, h6, h7⟩ := h
  exact ⟨by rw [bW_at (by omega)]; exact h1, by rw [bW_at (by omega)]; exact h2, List.getElem?_set_self (List.getElem?_eq_some_iff.mp h3).1, ⟨f, by rw [bW_at (by omega)]; exact h4, h5⟩, by rw [bW_at (by omega)]; exact h6, fun i hi => ⟨by rw [bW_at (by omega)]; exact (h7 i hi).1, by rw [bW_at (by omega)]; exact (h7 i hi).2⟩⟩
theorem KX_kW {w : A_W} {lk : Int32} {fd b z c q tp : Nat → Int32} (h : KX w lk fd b z c q tp) (u : Int32) : KX (kW w u) u fd b z c q tp := by
  obtain ⟨h1, h2, h3, ⟨f, h4, h5⟩, h6, h7⟩ := h
  exact ⟨List.getElem?_set_self (List.getElem?_eq_some_iff.mp h1).1, by rw [kW_at (by omega)]; exact h2, by rw [kW_at (by omega)]; exact h3, ⟨f, by rw [kW_at (by omega)]; exact h4, h5⟩, by rw [kW_at (by omega)]; exact h6, fun i hi => ⟨by rw [kW_at (by omega)]; exact (h7 i hi).1, by rw [kW_at (by omega)]; exact (h7 i hi).2⟩⟩
theorem RC_dW {w : A_W} {t : Nat} {g : Nat → Int32} (hR : RC w t g) (ht : t + 11 < 37) (u : Nat → Int32) : RC (dW w u) t g := hR.fr (fun a _ h2 => dW_at (by omega))
theorem RC_bW {w : A_W} {t : Nat} {g : Nat → Int32} (hR : RC w t g) (ht : t + 11 < 37) (u : Nat → Int32) : RC (bW w u) t g := hR.fr (fun a _ h2 => bW_at (by omega))
theorem RC_kW {w : A_W} {t : Nat} {g : Nat → Int32} (hR : RC w t g) (ht : 0 < t) (u : Int32) : RC (kW w u) t g := hR.fr (fun a h1 _ => kW_at (by omega))
theorem MM_dW {w : A_W} {h : Nat → Nat → Int32} {s : Nat → Int32} (hM : MM w h s) (u : Nat → Int32) : MM (dW w u) h s := hM.fr (fun k hk => dW_at (by omega))
theorem MM_bW {w : A_W} {h : Nat → Nat → Int32} {s : Nat → Int32} (hM : MM w h s) (u : Nat → Int32) : MM (bW w u) h s := hM.fr (fun k hk => bW_at (by omega))
theorem MM_kW {w : A_W} {h : Nat → Nat → Int32} {s : Nat → Int32} (hM : MM w h s) (u : Int32) : MM (kW w u) h s := hM.fr (fun k hk => kW_at (by omega))
theorem D_gf {w : A_W} {q : Nat → Int32} (h : w[37]? = some (dobj q)) (k : Nat) : gf w 37 1 k = ([.ref 38, .int (q 0), .int (q 1), .int (q 2), .int (q 3), .int (q 4)] : List Value)[k]? := by unfold gf; rw [h]; rfl
theorem D_ob {w : A_W} {q : Nat → Int32} (h : w[37]? = some (dobj q)) : ob w 37 1 = some [.ref 38, .int (q 0), .int (q 1), .int (q 2), .int (q 3), .int (q 4)] := by unfold ob; rw [h]; rfl
theorem D_g0 {w : A_W} {q : Nat → Int32} (h : w[37]? = some (dobj q)) : gr w 37 1 0 = some 38 := by unfold gr; rw [D_gf h]; rfl
theorem D_g1 {w : A_W} {q : Nat → Int32} (h : w[37]? = some (dobj q)) : gi w 37 1 1 = some (q 0) := by unfold gi; rw [D_gf h]; rfl
theorem D_g2 {w : A_W} {q : Nat → Int32} (h : w[37]? = some (dobj q)) : gi w 37 1 2 = some (q 1) := by unfold gi; rw [D_gf h]; rfl
theorem D_g3 {w : A_W} {q : Nat → Int32} (h : w[37]? = some (dobj q)) : gi w 37 1 3 = some (q 2) := by unfold gi; rw [D_gf h]; rfl
theorem D_g4 {w : A_W} {q : Nat → Int32} (h : w[37]? = some (dobj q)) : gi w 37 1 4 = some (q 3) := by unfold gi; rw [D_gf h]; rfl
theorem D_g5 {w : A_W} {q : Nat → Int32} (h : w[37]? = some (dobj q)) : gi w 37 1 5 = some (q 4) := by unfold gi; rw [D_gf h]; rfl
theorem D_pf {w : A_W} {q : Nat → Int32} (h : w[37]? = some (dobj q)) {k : Nat} (hk : k < 5) (v : Int32) : pf w 37 1 (k + 1) (.int v) = some (dW w (upd q k v)) := by
  unfold pf
  rw [h]
  dsimp only [dobj]
  rw [if_pos ⟨rfl, by show k + 1 < 6; omega⟩]
  unfold dW dobj
  congr 3
  rcases (show k = 0 ∨ k = 1 ∨ k = 2 ∨ k = 3 ∨ k = 4 by omega) with rfl | rfl | rfl | rfl | rfl <;> simp [upd]
theorem K_pf3 {w : A_W} {v0 : Int32} (h : w[0]? = some (kobj v0)) (v : Int32) : pf w 0 0 3 (.int v) = some (kW w v) := by
  unfold pf
  rw [h]
  rfl
theorem Wf_cg {f g : Nat → Int32} (e : ∀ i, i < 87 → f i = g i) (h : Wf g) : Wf f := by
  refine ⟨fun j hj hn => ?_, fun j hj => ?_, fun j hj => ?_⟩
  · rw [e j (by omega)]; exact h.1 j hj hn
  · rw [e _ (by omega)]; exact h.2.1 j hj
  · rw [e _ (by omega), e 3 (by omega)]; exact h.2.2 j hj
theorem cpR_lo {a b : Nat → Int32} {i : Nat} (hi : i < 87) : cpR a b i = a i := if_pos hi
theorem st29 : St29 Rel := by
  intro w ⟨h, s, g2, g3, q, R, G⟩
  obtain ⟨M, K, R1, R2, R3⟩ := R
  have R : RelX w h s g2 g3 q := ⟨M, K, R1, R2, R3⟩
  obtain ⟨G1, G2, G3, G4, G5, G6, G7⟩ := G
  have M1 := MM_dW M (upd q 0 0)
  have D := K.2.1
  refine ⟨(q 0, dW w (upd q 0 0)), (s 9, mP (dW w (upd q 0 0)) (upd s 9 0)), ?_, ?_, G6, ?_, _, M1.ob_⟩
  · unfold F_K_wipe F_K_wipe_0
    simp only [R.kg4, Option.bind_some, D_g1 D, D_pf D (k := 0) (by omega)]
  · unfold F_M_wipe F_M_wipe_0
    simp only [M1.gi9, Option.bind_some, M1.pf_ (k := 9) (by omega)]
  · have F := mP_Fr (dW w (upd q 0 0)) (upd s 9 0)
    refine ⟨h, upd s 9 0, g2, g3, upd q 0 0, ⟨M1.setP _, ?_, RC_Fr (RC_dW R1 (by omega) _) (by omega) F, RC_Fr (RC_dW R2 (by omega) _) (by omega) F, RC_Fr (RC_dW R3 (by omega) _) (by omega) F⟩, G1, ?_, ?_, G4, ⟨0, by omega, rfl⟩, rfl, G7⟩
    · rw [upd_n (by omega)]; exact KX_Fr (KX_dW K _) F
    · rw [upd_n (by omega)]; exact G2
    · rw [upd_n (by omega)]; exact G3
theorem st38 : St38 Rel := by
  intro w ⟨h, s, g2, g3, q, R, G⟩
  obtain ⟨M, K, R1, R2, R3⟩ := R
  have R : RelX w h s g2 g3 q := ⟨M, K, R1, R2, R3⟩
  obtain ⟨G1, G2, G3, G4, G5, G6, G7⟩ := G
  have K1 := KX_rW K (t := 25) (by omega) (by omega) (h 0)
  have M1 := MM_kW (MM_rW M (t := 25) (by omega) (h 0)) 1
  have M2 := M1.set (a := 1) (by omega) (cpR (h 0) (h 1))
  refine ⟨(1, kW (rW w 25 (h 0)) 1), (1, mP (mW (kW (rW w 25 (h 0)) 1) 1 (cpR (h 0) (h 1))) (upd s 3 1)), ?_, ?_, rfl, ?_, _, M1.ob_⟩
  · unfold F_K_image F_K_image_0
    simp only [R.kg2, R.kg0, Option.bind_some, R3.ob_, R_become R3 R1 (by omega), bz1, K_pf3 K1.1]
  · unfold F_M_image F_M_image_0
    simp only [M1.gr0, M1.gr1, Option.bind_some, M_copyAll M1 (a := 0) (b := 1) (x := 50) (y := 51) (by omega) (by omega) (by omega) rfl rfl, bz1, M2.pf_ (k := 3) (by omega)]
  · have F := (mW_Fr (kW (rW w 25 (h 0)) 1) 1 (cpR (h 0) (h 1))).tr (mP_Fr _ (upd s 3 1))
    have e : ∀ a, a ≠ 1 → hset h 1 (cpR (h 0) (h 1)) a = h a := fun a ha => hset_ne h _ ha
    refine ⟨hset h 1 (cpR (h 0) (h 1)), upd s 3 1, g2, h 0, q, ⟨M2.setP _, ?_, ?_, RC_Fr (RC_kW (RC_rW R2 (by omega)) (by omega) _) (by omega) F, RC_Fr (RC_kW (R3.set _) (by omega) _) (by omega) F⟩, ?_, Or.inr rfl, fun _ => ?_, ?_, ?_, ?_, ?_⟩
    · rw [upd_s, e 3 (by omega), e 4 (by omega), e 5 (by omega), e 6 (by omega), e 7 (by omega)]; exact KX_Fr (KX_kW K1 _) F
    · rw [e 0 (by omega)]; exact RC_Fr (RC_kW (RC_rW R1 (by omega)) (by omega) _) (by omega) F
    · rw [e 0 (by omega)]; exact G1
    · rw [hset_self]; exact ⟨Wf_cg (fun i hi => cpR_lo hi) G1, fun i hi => (cpR_lo hi).symm⟩
    · rw [e 4 (by omega), e 5 (by omega)]; exact G4
    · rw [upd_n (by omega)]; exact G5
    · rw [upd_n (by omega)]; exact G6
    · rw [e 7 (by omega)]; exact G7
theorem st40 : St40 Rel := by
  intro w ⟨h, s, g2, g3, q, R, G⟩
  obtain ⟨M, K, R1, R2, R3⟩ := R
  have R : RelX w h s g2 g3 q := ⟨M, K, R1, R2, R3⟩
  obtain ⟨G1, G2, G3, G4, G5, G6, G7⟩ := G
  have M1 := MM_kW M 0
  refine ⟨(s 3, kW w 0), (s 3, mP (kW w 0) (upd s 3 0)), ?_, ?_, rfl, ?_, _, M1.ob_⟩
  · unfold F_K_tear F_K_tear_0 F_K_tear_12
    simp only [R.kg3, Option.bind_some, bz0, K_pf3 K.1]
    rcases G2 with e | e <;> rw [e] <;> rfl
  · unfold F_M_tear F_M_tear_0 F_M_tear_12
    simp only [M1.gi3, Option.bind_some, bz0, M1.pf_ (k := 3) (by omega)]
    rcases G2 with e | e <;> rw [e] <;> rfl
  · have F := mP_Fr (kW w 0) (upd s 3 0)
    refine ⟨h, upd s 3 0, g2, g3, q, ⟨M1.setP _, ?_, RC_Fr (RC_kW R1 (by omega) _) (by omega) F, RC_Fr (RC_kW R2 (by omega) _) (by omega) F, RC_Fr (RC_kW R3 (by omega) _) (by omega) F⟩, G1, Or.inl rfl, fun z => absurd z (by rw [upd_s]; decide), G4, ?_, ?_, G7⟩
    · rw [upd_s]; exact KX_Fr (KX_kW K _) F
    · rw [upd_n (by omega)]; exact G5
    · rw [upd_n (by omega)]; exact G6
theorem st39 : St39 Rel := by
  intro w ⟨h, s, g2, g3, q, R, G⟩
  by_cases c : s 3 = 0
  · refine SP_fd R G (i := 3) (r1 := (-1000001) - 3) (r2 := (-1000004)) ?_ (fun M => ?_) (by decide)
    · unfold F_K_undo F_K_undo_0
      simp only [R.kg3, Option.bind_some]
      rw [if_pos c]
      simp only [K_within, K_isHanger, K_isKind, K_isSpot, K_isSheet, R_hasDeposit R.2.2.1, R_hasGirl R.2.2.1, R.kg0, R.kg1, R.kob, R.2.2.1.ob_, Option.bind_some, bI_0, K_finding R (i := 3) (x := 3) (by omega) rfl]
    · unfold F_M_undo F_M_undo_0
      simp only [M.gi3, Option.bind_some]
      rw [if_pos c]
      simp only [M_in, M_isHanger, M_isPlace, M_isDeposit M, M_isGirl M, M.ob_, M.gr0, Option.bind_some, bI_0, M_finds M (i := 3) (v := (-1000004)) (by omega) (by decide)]
  · obtain ⟨wf, eg⟩ := G.2.2.1 (G.2.1.resolve_left c)
    have er : rW w 1 g3 = rW w 1 (cpR (h 1) (h 0)) := rW_row (fun i hi => by rw [cpR_lo hi]; exact eg i hi)
    refine SP_row R G (f := cpR (h 1) (h 0)) (Wf_cg (fun i hi => cpR_lo hi) wf) (r1 := h 1 0) (r2 := h 1 0) ?_ (fun M => ?_) rfl
    · unfold F_K_undo F_K_undo_0
      simp only [R.kg3, Option.bind_some]
      rw [if_neg c]
      have R' := R.row (cpR (h 1) (h 0))
      have kg : gr (rW w 1 (cpR (h 1) (h 0))) 0 0 0 = some 1 := by
        have K1 := KX_rW R.2.1 (t := 1) (by omega) (by omega) (cpR (h 1) (h 0))
        unfold gr gf; rw [K1.1]; rfl
      simp only [R.kg0, R.kg2, Option.bind_some, R.2.2.1.ob_, R_become R.2.2.1 R.2.2.2.2 (by omega), er, kg, (R.2.2.1.set (cpR (h 1) (h 0))).gi0]
      rfl
    · unfold F_M_undo F_M_undo_0
      simp only [M.gi3, Option.bind_some]
      rw [if_neg c]
      have M2 := M.set (a := 0) (by omega) (cpR (h 1) (h 0))
      simp only [M.gr0, M.gr1, Option.bind_some, M_copyAll M (a := 1) (b := 0) (x := 51) (y := 50) (by omega) (by omega) (by omega) rfl rfl, M2.gr0, M2.rd0 (i := 0) (x := 0) (by omega) rfl, hset_self]
      rfl
/-! COUNTS -/
def hsN (f : Nat → Int32) : Nat → Nat → Int32 → Int32
  | 0, _, a => a
  | k + 1, d, a => hsN f k (d + 1) (if f (77 + d) < 0 then a else a + 1)
theorem R_held_loop {w : A_W} {t : Nat} {g : Nat → Int32} (hR : RC w t g) (hf : Wf g) : ∀ (n k d : Nat) (a : Int32) (x : Int32), x = nI d → d + k = 10 → k < n → F_R_heldSpots_4 n t a x w = some (hsN g k d a, w) := by
  intro n
  induction n with
  | zero => intro k d a x _ _ hk; exact absurd hk (by omega)
  | succ n ih =>
    intro k d a x hx hk hn
    rw [F_R_heldSpots_4, hx]
    cases k with
    | zero =>
      rw [if_pos (show (10 : Int32) ≤ nI d from nI_le (a := 10) (by omega) (by omega))]
      rfl
    | succ k =>
      rw [if_neg (show ¬ (10 : Int32) ≤ nI d from nI_ge (b := 10) (by omega) (by omega))]
      simp only [hR.gr15, Option.bind_some, hR.rd_spots (i := d) (by omega) rfl]
      unfold F_R_heldSpots_23
      rw [hsN]
      obtain ⟨b1, b2⟩ := hf.2.2 d (by omega)
      by_cases c : g (77 + d) = -1
      · rw [if_pos c, if_pos (by rw [c]; decide)]
        exact ih k (d + 1) _ _ (nI_1 d) (by omega) (by omega)
      · rw [if_neg c, if_neg (fun z => c (Int32.toInt_inj.mp (by have := Int32.lt_iff_toInt_lt.mp z; have h0 : (0 : Int32).toInt = 0 := rfl; have h1 : (-1 : Int32).toInt = -1 := rfl; rw [h0] at this; rw [h1]; omega)))]
        exact ih k (d + 1) _ _ (nI_1 d) (by omega) (by omega)
theorem M_held_loop {w : A_W} {h : Nat → Nat → Int32} {s : Nat → Int32} (hM : MM w h s) : ∀ (n k d : Nat) (a : Int32) (x : Int32), x = nI (77 + d) → d + k = 10 → k < n → F_M_manyHeld_5 n 49 a x w = some (hsN (h 0) k d a, w) := by
  intro n
  induction n with
  | zero => intro k d a x _ _ hk; exact absurd hk (by omega)
  | succ n ih =>
    intro k d a x hx hk hn
    rw [F_M_manyHeld_5, hx]
    cases k with
    | zero =>
      rw [if_pos (show (87 : Int32) ≤ nI (77 + d) from nI_le (a := 87) (by omega) (by omega))]
      rfl
    | succ k =>
      rw [if_neg (show ¬ (87 : Int32) ≤ nI (77 + d) from nI_ge (b := 87) (by omega) (by omega))]
      simp only [hM.gr0, Option.bind_some, hM.rd0 (i := 77 + d) (by omega) rfl]
      unfold F_M_manyHeld_26
      rw [hsN]
      have e : nI (77 + d) + 1 = nI (77 + (d + 1)) := nI_1 _
      by_cases c : h 0 (77 + d) < 0
      · rw [if_pos c, if_pos c, Int32.add_zero]
        exact ih k (d + 1) _ _ e (by omega) (by omega)
      · rw [if_neg c, if_neg c]
        exact ih k (d + 1) _ _ e (by omega) (by omega)
theorem R_heldSpots {w : A_W} {t : Nat} {g : Nat → Int32} (hR : RC w t g) (hf : Wf g) : F_R_heldSpots t w = some (hsN g 10 0 0, w) := R_held_loop hR hf FU 10 0 0 0 rfl (by omega) (by unfold FU; omega)
theorem M_manyHeld {w : A_W} {h : Nat → Nat → Int32} {s : Nat → Int32} (hM : MM w h s) : F_M_manyHeld 49 w = some (hsN (h 0) 10 0 0, w) := M_held_loop hM FU 10 0 0 77 rfl (by omega) (by unfold FU; omega)
theorem st41 : St41 Rel := by
  intro a1 w ⟨h, s, g2, g3, q, R, G⟩
  have D := R.2.1.2.1
  by_cases c0 : a1 = 0
  · refine SP_id R G (r1 := h 0 0) (r2 := h 0 0) ?_ ?_ rfl
    · unfold F_K_count F_K_count_0
      rw [if_pos c0]
      simp only [K_within, K_isHanger, K_isKind, K_isSpot, K_isSheet, R_hasDeposit R.2.2.1, R_hasGirl R.2.2.1, R.kg0, R.kg1, R.kob, R.2.2.1.ob_, Option.bind_some, bI_0, R.2.2.1.gi0, R.2.2.1.gi1, R.2.2.1.gi2, R.2.2.1.gi3, R.2.2.1.gi4, R_metTogether R.2.2.1 G.1, R_heldSpots R.2.2.1 G.1, R.kg4, D_g1 D, G.2.2.2.2.2.1]
    · have M := R.1
      unfold F_M_count F_M_count_0
      rw [if_pos c0]
      simp only [M_in, M_isHanger, M_isPlace, M_isDeposit M, M_isGirl M, M.ob_, M.gr0, Option.bind_some, bI_0, M.rd0 (i := 0) (x := 0) (by omega) rfl, M.rd0 (i := 1) (x := 1) (by omega) rfl, M.rd0 (i := 2) (x := 2) (by omega) rfl, M.rd0 (i := 3) (x := 3) (by omega) rfl, M.rd0 (i := 4) (x := 4) (by omega) rfl, M_sums M G.1 (e := 2) (x := 2) (by omega) rfl, M_manyHeld M, M.gi9]
  by_cases c1 : a1 = 1
  · refine SP_id R G (r1 := h 0 3) (r2 := h 0 3) ?_ ?_ rfl
    · unfold F_K_count F_K_count_0
      rw [if_neg c0, if_pos c1]
      simp only [K_within, K_isHanger, K_isKind, K_isSpot, K_isSheet, R_hasDeposit R.2.2.1, R_hasGirl R.2.2.1, R.kg0, R.kg1, R.kob, R.2.2.1.ob_, Option.bind_some, bI_0, R.2.2.1.gi0, R.2.2.1.gi1, R.2.2.1.gi2, R.2.2.1.gi3, R.2.2.1.gi4, R_metTogether R.2.2.1 G.1, R_heldSpots R.2.2.1 G.1, R.kg4, D_g1 D, G.2.2.2.2.2.1]
    · have M := R.1
      unfold F_M_count F_M_count_0
      rw [if_neg c0, if_pos c1]
      simp only [M_in, M_isHanger, M_isPlace, M_isDeposit M, M_isGirl M, M.ob_, M.gr0, Option.bind_some, bI_0, M.rd0 (i := 0) (x := 0) (by omega) rfl, M.rd0 (i := 1) (x := 1) (by omega) rfl, M.rd0 (i := 2) (x := 2) (by omega) rfl, M.rd0 (i := 3) (x := 3) (by omega) rfl, M.rd0 (i := 4) (x := 4) (by omega) rfl, M_sums M G.1 (e := 2) (x := 2) (by omega) rfl, M_manyHeld M, M.gi9]
  by_cases c2 : a1 = 2
  · refine SP_id R G (r1 := h 0 4) (r2 := h 0 4) ?_ ?_ rfl
    · unfold F_K_count F_K_count_0
      rw [if_neg c0, if_neg c1, if_pos c2]
      simp only [K_within, K_isHanger, K_isKind, K_isSpot, K_isSheet, R_hasDeposit R.2.2.1, R_hasGirl R.2.2.1, R.kg0, R.kg1, R.kob, R.2.2.1.ob_, Option.bind_some, bI_0, R.2.2.1.gi0, R.2.2.1.gi1, R.2.2.1.gi2, R.2.2.1.gi3, R.2.2.1.gi4, R_metTogether R.2.2.1 G.1, R_heldSpots R.2.2.1 G.1, R.kg4, D_g1 D, G.2.2.2.2.2.1]
    · have M := R.1
      unfold F_M_count F_M_count_0
      rw [if_neg c0, if_neg c1, if_pos c2]
      simp only [M_in, M_isHanger, M_isPlace, M_isDeposit M, M_isGirl M, M.ob_, M.gr0, Option.bind_some, bI_0, M.rd0 (i := 0) (x := 0) (by omega) rfl, M.rd0 (i := 1) (x := 1) (by omega) rfl, M.rd0 (i := 2) (x := 2) (by omega) rfl, M.rd0 (i := 3) (x := 3) (by omega) rfl, M.rd0 (i := 4) (x := 4) (by omega) rfl, M_sums M G.1 (e := 2) (x := 2) (by omega) rfl, M_manyHeld M, M.gi9]
  by_cases c3 : a1 = 3
  · refine SP_id R G (r1 := h 0 1) (r2 := h 0 1) ?_ ?_ rfl
    · unfold F_K_count F_K_count_0
      rw [if_neg c0, if_neg c1, if_neg c2, if_pos c3]
      simp only [K_within, K_isHanger, K_isKind, K_isSpot, K_isSheet, R_hasDeposit R.2.2.1, R_hasGirl R.2.2.1, R.kg0, R.kg1, R.kob, R.2.2.1.ob_, Option.bind_some, bI_0, R.2.2.1.gi0, R.2.2.1.gi1, R.2.2.1.gi2, R.2.2.1.gi3, R.2.2.1.gi4, R_metTogether R.2.2.1 G.1, R_heldSpots R.2.2.1 G.1, R.kg4, D_g1 D, G.2.2.2.2.2.1]
    · have M := R.1
      unfold F_M_count F_M_count_0
      rw [if_neg c0, if_neg c1, if_neg c2, if_pos c3]
      simp only [M_in, M_isHanger, M_isPlace, M_isDeposit M, M_isGirl M, M.ob_, M.gr0, Option.bind_some, bI_0, M.rd0 (i := 0) (x := 0) (by omega) rfl, M.rd0 (i := 1) (x := 1) (by omega) rfl, M.rd0 (i := 2) (x := 2) (by omega) rfl, M.rd0 (i := 3) (x := 3) (by omega) rfl, M.rd0 (i := 4) (x := 4) (by omega) rfl, M_sums M G.1 (e := 2) (x := 2) (by omega) rfl, M_manyHeld M, M.gi9]
  by_cases c4 : a1 = 4
  · refine SP_id R G (r1 := sms (h 0) 2) (r2 := sms (h 0) 2) ?_ ?_ rfl
    · unfold F_K_count F_K_count_0
      rw [if_neg c0, if_neg c1, if_neg c2, if_neg c3, if_pos c4]
      simp only [K_within, K_isHanger, K_isKind, K_isSpot, K_isSheet, R_hasDeposit R.2.2.1, R_hasGirl R.2.2.1, R.kg0, R.kg1, R.kob, R.2.2.1.ob_, Option.bind_some, bI_0, R.2.2.1.gi0, R.2.2.1.gi1, R.2.2.1.gi2, R.2.2.1.gi3, R.2.2.1.gi4, R_metTogether R.2.2.1 G.1, R_heldSpots R.2.2.1 G.1, R.kg4, D_g1 D, G.2.2.2.2.2.1]
    · have M := R.1
      unfold F_M_count F_M_count_0
      rw [if_neg c0, if_neg c1, if_neg c2, if_neg c3, if_pos c4]
      simp only [M_in, M_isHanger, M_isPlace, M_isDeposit M, M_isGirl M, M.ob_, M.gr0, Option.bind_some, bI_0, M.rd0 (i := 0) (x := 0) (by omega) rfl, M.rd0 (i := 1) (x := 1) (by omega) rfl, M.rd0 (i := 2) (x := 2) (by omega) rfl, M.rd0 (i := 3) (x := 3) (by omega) rfl, M.rd0 (i := 4) (x := 4) (by omega) rfl, M_sums M G.1 (e := 2) (x := 2) (by omega) rfl, M_manyHeld M, M.gi9]
  by_cases c5 : a1 = 5
  · refine SP_id R G (r1 := s 9) (r2 := s 9) ?_ ?_ rfl
    · unfold F_K_count F_K_count_0
      rw [if_neg c0, if_neg c1, if_neg c2, if_neg c3, if_neg c4, if_pos c5]
      simp only [K_within, K_isHanger, K_isKind, K_isSpot, K_isSheet, R_hasDeposit R.2.2.1, R_hasGirl R.2.2.1, R.kg0, R.kg1, R.kob, R.2.2.1.ob_, Option.bind_some, bI_0, R.2.2.1.gi0, R.2.2.1.gi1, R.2.2.1.gi2, R.2.2.1.gi3, R.2.2.1.gi4, R_metTogether R.2.2.1 G.1, R_heldSpots R.2.2.1 G.1, R.kg4, D_g1 D, G.2.2.2.2.2.1]
    · have M := R.1
      unfold F_M_count F_M_count_0
      rw [if_neg c0, if_neg c1, if_neg c2, if_neg c3, if_neg c4, if_pos c5]
      simp only [M_in, M_isHanger, M_isPlace, M_isDeposit M, M_isGirl M, M.ob_, M.gr0, Option.bind_some, bI_0, M.rd0 (i := 0) (x := 0) (by omega) rfl, M.rd0 (i := 1) (x := 1) (by omega) rfl, M.rd0 (i := 2) (x := 2) (by omega) rfl, M.rd0 (i := 3) (x := 3) (by omega) rfl, M.rd0 (i := 4) (x := 4) (by omega) rfl, M_sums M G.1 (e := 2) (x := 2) (by omega) rfl, M_manyHeld M, M.gi9]
  by_cases c6 : a1 = 6
  · refine SP_id R G (r1 := h 0 2) (r2 := h 0 2) ?_ ?_ rfl
    · unfold F_K_count F_K_count_0
      rw [if_neg c0, if_neg c1, if_neg c2, if_neg c3, if_neg c4, if_neg c5, if_pos c6]
      simp only [K_within, K_isHanger, K_isKind, K_isSpot, K_isSheet, R_hasDeposit R.2.2.1, R_hasGirl R.2.2.1, R.kg0, R.kg1, R.kob, R.2.2.1.ob_, Option.bind_some, bI_0, R.2.2.1.gi0, R.2.2.1.gi1, R.2.2.1.gi2, R.2.2.1.gi3, R.2.2.1.gi4, R_metTogether R.2.2.1 G.1, R_heldSpots R.2.2.1 G.1, R.kg4, D_g1 D, G.2.2.2.2.2.1]
    · have M := R.1
      unfold F_M_count F_M_count_0
      rw [if_neg c0, if_neg c1, if_neg c2, if_neg c3, if_neg c4, if_neg c5, if_pos c6]
      simp only [M_in, M_isHanger, M_isPlace, M_isDeposit M, M_isGirl M, M.ob_, M.gr0, Option.bind_some, bI_0, M.rd0 (i := 0) (x := 0) (by omega) rfl, M.rd0 (i := 1) (x := 1) (by omega) rfl, M.rd0 (i := 2) (x := 2) (by omega) rfl, M.rd0 (i := 3) (x := 3) (by omega) rfl, M.rd0 (i := 4) (x := 4) (by omega) rfl, M_sums M G.1 (e := 2) (x := 2) (by omega) rfl, M_manyHeld M, M.gi9]
  by_cases c7 : a1 = 7
  · refine SP_id R G (r1 := hsN (h 0) 10 0 0) (r2 := hsN (h 0) 10 0 0) ?_ ?_ rfl
    · unfold F_K_count F_K_count_0
      rw [if_neg c0, if_neg c1, if_neg c2, if_neg c3, if_neg c4, if_neg c5, if_neg c6, if_pos c7]
      simp only [K_within, K_isHanger, K_isKind, K_isSpot, K_isSheet, R_hasDeposit R.2.2.1, R_hasGirl R.2.2.1, R.kg0, R.kg1, R.kob, R.2.2.1.ob_, Option.bind_some, bI_0, R.2.2.1.gi0, R.2.2.1.gi1, R.2.2.1.gi2, R.2.2.1.gi3, R.2.2.1.gi4, R_metTogether R.2.2.1 G.1, R_heldSpots R.2.2.1 G.1, R.kg4, D_g1 D, G.2.2.2.2.2.1]
    · have M := R.1
      unfold F_M_count F_M_count_0
      rw [if_neg c0, if_neg c1, if_neg c2, if_neg c3, if_neg c4, if_neg c5, if_neg c6, if_pos c7]
      simp only [M_in, M_isHanger, M_isPlace, M_isDeposit M, M_isGirl M, M.ob_, M.gr0, Option.bind_some, bI_0, M.rd0 (i := 0) (x := 0) (by omega) rfl, M.rd0 (i := 1) (x := 1) (by omega) rfl, M.rd0 (i := 2) (x := 2) (by omega) rfl, M.rd0 (i := 3) (x := 3) (by omega) rfl, M.rd0 (i := 4) (x := 4) (by omega) rfl, M_sums M G.1 (e := 2) (x := 2) (by omega) rfl, M_manyHeld M, M.gi9]
  refine SP_fd R G (i := 0) (r1 := (-1000001) - 0) (r2 := (-1000001)) ?_ (fun M => ?_) (by decide)
  · unfold F_K_count F_K_count_0
    rw [if_neg c0, if_neg c1, if_neg c2, if_neg c3, if_neg c4, if_neg c5, if_neg c6, if_neg c7]
    simp only [K_within, K_isHanger, K_isKind, K_isSpot, K_isSheet, R_hasDeposit R.2.2.1, R_hasGirl R.2.2.1, R.kg0, R.kg1, R.kob, R.2.2.1.ob_, Option.bind_some, bI_0, K_finding R (i := 0) (x := 0) (by omega) rfl]
  · unfold F_M_count F_M_count_0
    rw [if_neg c0, if_neg c1, if_neg c2, if_neg c3, if_neg c4, if_neg c5, if_neg c6, if_neg c7]
    simp only [M_in, M_isHanger, M_isPlace, M_isDeposit M, M_isGirl M, M.ob_, M.gr0, Option.bind_some, bI_0, M_finds M (i := 0) (v := (-1000001)) (by omega) (by decide)]
/-! FINDINGS -/
def fsN (f : Nat → Int32) : Nat → Nat → Int32 → Int32
  | 0, _, a => a
  | k + 1, d, a => fsN f k (d + 1) (a + f d)
theorem F_rd {w : A_W} {h : Nat → Nat → Int32} {s g2 g3 q : Nat → Int32} (R : RelX w h s g2 g3 q) {i : Nat} (hi : i < 7) {x : Int32} (hx : x = nI i) : rd w 40 x = some (h 3 i) := by
  have hb : inb x 7 := by rw [hx]; exact inb_nI hi (by omega)
  unfold rd; rw [R.2.1.2.2.2.2.1]; show (if inb x 7 then some (h 3 x.toNatClampNeg) else none) = _; rw [if_pos hb, hx, nI_clamp (by omega)]
theorem K_fd_loop {w : A_W} {h : Nat → Nat → Int32} {s g2 g3 q : Nat → Int32} (R : RelX w h s g2 g3 q) : ∀ (n k d : Nat) (a : Int32) (x : Int32), x = nI d → d + k = 7 → k < n → F_K_foundTogether_13 n a 40 7 x w = some (fsN (h 3) k d a, w) := by
  intro n
  induction n with
  | zero => intro k d a x _ _ hk; exact absurd hk (by omega)
  | succ n ih =>
    intro k d a x hx hk hn
    rw [F_K_foundTogether_13, hx]
    cases k with
    | zero =>
      rw [if_pos (show (7 : Int32) ≤ nI d from nI_le (a := 7) (by omega) (by omega))]
      rfl
    | succ k =>
      rw [if_neg (show ¬ (7 : Int32) ≤ nI d from nI_ge (b := 7) (by omega) (by omega))]
      simp only [F_rd R (i := d) (by omega) rfl, Option.bind_some]
      exact ih k (d + 1) _ _ (nI_1 d) (by omega) (by omega)
theorem M_fd_loop {w : A_W} {h : Nat → Nat → Int32} {s : Nat → Int32} (hM : MM w h s) : ∀ (n k d : Nat) (a : Int32) (x : Int32), x = nI d → d + k = 7 → k < n → F_M_status_21 n 49 (-1) a x w = some (fsN (h 3) k d a, w) := by
  intro n
  induction n with
  | zero => intro k d a x _ _ hk; exact absurd hk (by omega)
  | succ n ih =>
    intro k d a x hx hk hn
    rw [F_M_status_21, hx]
    cases k with
    | zero =>
      rw [if_pos (show (7 : Int32) ≤ nI d from nI_le (a := 7) (by omega) (by omega))]
      rfl
    | succ k =>
      rw [if_neg (show ¬ (7 : Int32) ≤ nI d from nI_ge (b := 7) (by omega) (by omega)), if_pos (by decide)]
      have e1 : rd w 53 (nI d) = some (h 3 d) := hM.rdN (a := 3) (by omega) (show d < 7 by omega) (by decide) rfl
      unfold F_M_status_37 F_M_status_47
      simp only [hM.gr4, e1, Option.bind_some]
      exact ih k (d + 1) _ _ (nI_1 d) (by omega) (by omega)
theorem M_fj_loop {w : A_W} {h : Nat → Nat → Int32} {s : Nat → Int32} (hM : MM w h s) {j : Nat} (hj : j < 7) : ∀ (n k d : Nat) (a : Int32) (x : Int32), x = nI d → d + k = 7 → k < n → F_M_status_21 n 49 (nI j) a x w = some (if d ≤ j then a + h 3 j else a, w) := by
  intro n
  induction n with
  | zero => intro k d a x _ _ hk; exact absurd hk (by omega)
  | succ n ih =>
    intro k d a x hx hk hn
    rw [F_M_status_21, hx]
    cases k with
    | zero =>
      rw [if_pos (show (7 : Int32) ≤ nI d from nI_le (a := 7) (by omega) (by omega)), if_neg (by omega)]
    | succ k =>
      rw [if_neg (show ¬ (7 : Int32) ≤ nI d from nI_ge (b := 7) (by omega) (by omega)), if_neg (nI_pos (by omega))]
      unfold F_M_status_37 F_M_status_47
      by_cases c : j = d
      · subst c
        have e1 : rd w 53 (nI j) = some (h 3 j) := hM.rdN (a := 3) (by omega) (show j < 7 by omega) (by decide) rfl
        rw [if_pos rfl]
        simp only [hM.gr4, e1, Option.bind_some]
        rw [ih k (j + 1) _ _ (nI_1 j) (by omega) (by omega), if_neg (by omega), if_pos (by omega)]
      · rw [if_neg (fun z => c ((nI_eq (by omega) (by omega)).mp z)), ih k (d + 1) _ _ (nI_1 d) (by omega) (by omega), Int32.add_zero]
        by_cases c2 : d ≤ j
        · rw [if_pos c2, if_pos (by omega)]
        · rw [if_neg c2, if_neg (by omega)]
theorem K_foundTogether {w : A_W} {h : Nat → Nat → Int32} {s g2 g3 q : Nat → Int32} (R : RelX w h s g2 g3 q) : F_K_foundTogether 0 w = some (fsN (h 3) 7 0 0, w) := by
  unfold F_K_foundTogether F_K_foundTogether_0
  have ea : al w 40 = some 7 := by unfold al; rw [R.2.1.2.2.2.2.1]; rfl
  have h1 := K_fd_loop R FU 7 0 0 0 rfl (by omega) (by unfold FU; omega)
  rw [R.kg6, Option.bind_some, ea, Option.bind_some, h1]
theorem M_fd_all {w : A_W} {h : Nat → Nat → Int32} {s : Nat → Int32} (hM : MM w h s) : F_M_status_21 FU 49 (-1) 0 0 w = some (fsN (h 3) 7 0 0, w) := M_fd_loop hM FU 7 0 0 0 rfl (by omega) (by unfold FU; omega)
theorem M_fj_all {w : A_W} {h : Nat → Nat → Int32} {s : Nat → Int32} (hM : MM w h s) {j : Nat} (hj : j < 7) : F_M_status_21 FU 49 (nI j) 0 0 w = some (h 3 j, w) := by
  rw [M_fj_loop hM hj FU 7 0 0 0 rfl (by omega) (by unfold FU; omega), if_pos (by omega), Int32.zero_add]
theorem st42 : St42 Rel := by
  intro a1 w ⟨h, s, g2, g3, q, R, G⟩
  by_cases c0 : a1 = -1
  · subst c0
    refine SP_id R G (r1 := fsN (h 3) 7 0 0) (r2 := fsN (h 3) 7 0 0) ?_ ?_ rfl
    · unfold F_K_status F_K_status_0
      rw [if_pos rfl]
      simp only [K_within, K_isHanger, K_isKind, K_isSpot, K_isSheet, R_hasDeposit R.2.2.1, R_hasGirl R.2.2.1, R.kg0, R.kg1, R.kob, R.2.2.1.ob_, Option.bind_some, bI_0, K_foundTogether R]
    · have M := R.1
      unfold F_M_status F_M_status_0
      simp only [M_in, M_isHanger, M_isPlace, M_isDeposit M, M_isGirl M, M.ob_, M.gr0, Option.bind_some, bI_0]
      rw [if_neg (fun z => z (by decide)), M_fd_all M]
  · by_cases c1 : 0 ≤ a1 ∧ a1 ≤ 6
    · have c1' := c1
      obtain ⟨j, -, hj, rfl⟩ := btw (m := 0) (n := 6) rfl rfl (by omega) (by omega) c1'
      refine SP_id R G (r1 := h 3 j) (r2 := h 3 j) ?_ ?_ rfl
      · unfold F_K_status F_K_status_0 F_K_status_34
        rw [if_neg c0]
        simp only [K_within, K_isHanger, K_isKind, K_isSpot, K_isSheet, R_hasDeposit R.2.2.1, R_hasGirl R.2.2.1, R.kg0, R.kg1, R.kob, R.2.2.1.ob_, Option.bind_some, bI_0]
        rw [if_neg (fun z => z c1)]
        simp only [K_within, K_isHanger, K_isKind, K_isSpot, K_isSheet, R_hasDeposit R.2.2.1, R_hasGirl R.2.2.1, R.kg0, R.kg1, R.kob, R.2.2.1.ob_, Option.bind_some, bI_0, R.kg6, F_rd R (i := j) (by omega) rfl]
      · have M := R.1
        unfold F_M_status F_M_status_0
        simp only [M_in, M_isHanger, M_isPlace, M_isDeposit M, M_isGirl M, M.ob_, M.gr0, Option.bind_some, bI_0]
        rw [if_neg (fun z => z ⟨Int32.le_trans (by decide) c1.1, c1.2⟩), M_fj_all M (j := j) (by omega)]
    · have c2 : ¬ (-1 ≤ a1 ∧ a1 ≤ 6) := fun z => by
        have h1 := Int32.le_iff_toInt_le.mp z.1
        have e1 : (-1 : Int32).toInt = -1 := rfl
        rw [e1] at h1
        by_cases h2 : 0 ≤ a1.toInt
        · exact c1 ⟨Int32.le_iff_toInt_le.mpr h2, z.2⟩
        · exact c0 (Int32.toInt_inj.mp (by rw [e1]; omega))
      refine SP_fd R G (i := 0) (r1 := (-1000001) - 0) (r2 := (-1000001)) ?_ (fun M => ?_) (by decide)
      · unfold F_K_status F_K_status_0 F_K_status_34
        rw [if_neg c0]
        simp only [K_within, K_isHanger, K_isKind, K_isSpot, K_isSheet, R_hasDeposit R.2.2.1, R_hasGirl R.2.2.1, R.kg0, R.kg1, R.kob, R.2.2.1.ob_, Option.bind_some, bI_0]
        rw [if_pos c1]
        simp only [K_within, K_isHanger, K_isKind, K_isSpot, K_isSheet, R_hasDeposit R.2.2.1, R_hasGirl R.2.2.1, R.kg0, R.kg1, R.kob, R.2.2.1.ob_, Option.bind_some, bI_0, K_finding R (i := 0) (x := 0) (by omega) rfl]
      · unfold F_M_status F_M_status_0
        simp only [M_in, M_isHanger, M_isPlace, M_isDeposit M, M_isGirl M, M.ob_, M.gr0, Option.bind_some, bI_0]
        rw [if_pos c2]
        simp only [M_in, M_isHanger, M_isPlace, M_isDeposit M, M_isGirl M, M.ob_, M.gr0, Option.bind_some, bI_0, M_finds M (i := 0) (v := (-1000001)) (by omega) (by decide)]
