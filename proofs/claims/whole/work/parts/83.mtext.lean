/-! THE MODEL READS A TEXT -/
def MX (w : A_W) (f s : Nat → Int32) : A_W := mP (mW w 0 f) s
theorem mW_mP0 (w : A_W) (s g : Nat → Int32) {a : Nat} : mW (mP w s) a g = mP (mW w a g) s := by unfold mW mP; exact List.set_comm _ _ (by omega)
theorem MT_14 {n : Nat} {s : Nat → Int32} {T : Tk} (h : MT n s T) (v : Int32) : MT n (upd s 14 v) T := by
  obtain ⟨h1, h2, h3, h4, h5⟩ := h
  exact ⟨by rw [upd_n (by omega)]; exact h1, by rw [upd_n (by omega)]; exact h2, by rw [upd_n (by omega)]; exact h3, by rw [upd_n (by omega)]; exact h4, by rw [upd_n (by omega)]; exact h5⟩
/-- what the model has done when it has read r -/
def MO (w : A_W) (n : Nat) (f : Nat → Int32) (s3 : Int32) (r : Bool × (Nat → Int32) × Tk) (o : Option A_W) : Prop := ∃ s' g, o = some (MX w g s') ∧ MT n s' r.2.2 ∧ s' 3 = s3 ∧ (r.1 = true → g = r.2.1 ∧ s' 14 = 0) ∧ (¬ r.1 = true → g = f ∧ s' 14 = 1)
theorem MO_t {w : A_W} {n : Nat} {f s' g : Nat → Int32} {s3 : Int32} {U : Tk} {o : Option A_W} (ho : o = some (MX w g s')) (hq : MT n s' U) (h3 : s' 3 = s3) (hb : s' 14 = 0) : MO w n f s3 (true, g, U) o := ⟨s', g, ho, hq, h3, fun _ => ⟨rfl, hb⟩, fun z => absurd rfl z⟩
theorem MO_f {w : A_W} {n : Nat} {f s' g : Nat → Int32} {s3 : Int32} {U : Tk} {o : Option A_W} (ho : o = some (MX w f s')) (hq : MT n s' U) (h3 : s' 3 = s3) (hb : s' 14 = 1) : MO w n f s3 (false, g, U) o := ⟨s', f, ho, hq, h3, fun z => absurd z (by decide : ¬ false = true), fun _ => ⟨rfl, hb⟩⟩
theorem MO_r {w : A_W} {n : Nat} {f s' g : Nat → Int32} {s3 : Int32} {r : Bool × (Nat → Int32) × Tk} {o : Option A_W} (ho : o = some (MX w g s')) (h : MT n s' r.2.2 ∧ s' 3 = s3 ∧ (r.1 = true → g = r.2.1 ∧ s' 14 = 0) ∧ (¬ r.1 = true → g = f ∧ s' 14 = 1)) : MO w n f s3 r o := ⟨s', g, ho, h⟩
theorem stub_v {o : Option Nat} (h : o = none ∨ ∃ v, o = some v ∧ v ≤ 99) (d : Int32) : (if 0 ≤ oV o (-1) then oV o (-1) else d) = oV o d := by
  rcases h with rfl | ⟨v, rfl, hv⟩
  · show (if (0 : Int32) ≤ -1 then (-1 : Int32) else d) = d
    rw [if_neg (by decide)]
  · show (if (0 : Int32) ≤ nI v then nI v else d) = nI v
    rw [if_pos (nI_pos' (by omega))]
section MTX
variable {w : A_W} {h : Nat → Nat → Int32} {s0 : Nat → Int32} {a : Nat → Nat} {n : Nat}
theorem MX_M (M : MM w h s0) (f s : Nat → Int32) : MM (MX w f s) (hset h 0 f) s := (M.set (by omega) f).setP s
theorem MX_P (f s u : Nat → Int32) : mP (MX w f s) u = MX w f u := by unfold MX; rw [mP_mP]
theorem MX_W (f s g : Nat → Int32) : mW (MX w f s) 0 g = MX w g s := by unfold MX; rw [mW_mP0, mW_mW]
theorem MA_set (A : MA h a) (f : Nat → Int32) : MA (hset h 0 f) a := fun i hi => by rw [hset_ne h f (by omega)]; exact A i hi
theorem MX_reads (M : MM w h s0) (A : MA h a) (hn : n ≤ 120) {f s : Nat → Int32} {T : Tk} (hv : VT a n T) (hs : MT n s T) : ∃ s', F_M_reads 49 (MX w f s) = some (MX w f s') ∧ MT n s' (tk a n T.e) ∧ s' 14 = s 14 ∧ s' 3 = s 3 := M_reads (M.set (by omega) f) (MA_set A f) hn hv.bd.2.1 hs.1 hs.2.2.2.1
theorem MX_takes_t (M : MM w h s0) (A : MA h a) (hn : n ≤ 120) {f s : Nat → Int32} {T : Tk} (hv : VT a n T) (hs : MT n s T) (hb : s 14 = 0) {x : Int32} (hx : x = nI T.kd) : ∃ s', F_M_takes 49 x (MX w f s) = some (1, MX w f s') ∧ MT n s' (tk a n T.e) ∧ s' 14 = 0 ∧ s' 3 = s 3 := by
  obtain ⟨s1, e1, h1, h14, h3⟩ := MX_reads M A hn (f := f) hv hs
  unfold F_M_takes F_M_takes_0
  rw [(MX_M M f s).gi14, Option.bind_some, if_pos hb, (MX_M M f s).gi10, Option.bind_some, if_pos (by rw [hx, hs.2.1]), (MX_M M f s).ob_, Option.bind_some, e1, Option.bind_some, bz1]
  exact ⟨s1, rfl, h1, by rw [h14, hb], h3⟩
theorem MX_takes_f (M : MM w h s0) {f s : Nat → Int32} {T : Tk} (hs : MT n s T) (hk : T.kd ≤ 23) {k : Nat} (k23 : k ≤ 23) (hc : s 14 = 0 → ¬ T.kd = k) {x : Int32} (hx : x = nI k) : F_M_takes 49 x (MX w f s) = some (0, MX w f s) := by
  unfold F_M_takes F_M_takes_0 F_M_takes_15
  rw [(MX_M M f s).gi14, Option.bind_some, bz0]
  by_cases hb : s 14 = 0
  · rw [if_pos hb, (MX_M M f s).gi10, Option.bind_some, hs.2.1, if_neg (fun z => hc hb ((nI_eq (by omega) (by omega)).mp (z.trans hx)))]; rfl
  · rw [if_neg hb]; rfl
theorem MX_number_t (M : MM w h s0) (A : MA h a) (hn : n ≤ 120) {f s : Nat → Int32} {T : Tk} (hv : VT a n T) (hs : MT n s T) (hb : s 14 = 0) {lo hi : Nat} (hc : nq T lo hi) (hh : hi ≤ 9999) {x y : Int32} (hx : x = nI lo) (hy : y = nI hi) : ∃ s', F_M_number 49 x y (MX w f s) = some (nI T.v, MX w f s') ∧ MT n s' (tk a n T.e) ∧ s' 14 = 0 ∧ s' 3 = s 3 := by
  obtain ⟨s1, e1, h1, h14, h3⟩ := MX_reads M A hn (f := f) hv (MT_14 hs 0)
  have c1 := hc.2.1
  have c2 := hc.2.2
  have k20 := hv.ct_.1.mpr hc.1
  unfold F_M_number F_M_number_0
  rw [(MX_M M f s).gi13, Option.bind_some, (MX_M M f s).gi14, Option.bind_some, if_pos hb, (MX_M M f s).gi10, Option.bind_some, hs.2.1, if_pos (show nI T.kd = 20 by rw [k20]; rfl), hs.2.2.2.2, hx, hy, M_in, Option.bind_some]
  dsimp only
  rw [if_neg (bI_y ⟨nI_le c1 (by omega), nI_le c2 (by omega)⟩)]
  unfold F_M_number_36 F_M_number_50
  rw [bz0, Option.bind_some, (MX_M M f s).pf_ (k := 14) (by omega), Option.bind_some, MX_P, (MX_M M f (upd s 14 0)).gi14, Option.bind_some, upd_s, if_pos rfl, (MX_M M f (upd s 14 0)).ob_, Option.bind_some, e1, Option.bind_some]
  exact ⟨s1, rfl, h1, by rw [h14, upd_s], by rw [h3, upd_n (by omega)]⟩
theorem MX_number_f (M : MM w h s0) {f s : Nat → Int32} {T : Tk} (hv : VT a n T) (hs : MT n s T) {lo hi : Nat} (hc : s 14 = 0 → ¬ nq T lo hi) (hh : hi ≤ 9999) (hl : lo ≤ hi) {x y : Int32} (hx : x = nI lo) (hy : y = nI hi) : ∃ v, F_M_number 49 x y (MX w f s) = some (v, MX w f (upd s 14 1)) := by
  have key : ∀ v : Int32, F_M_number_31 49 v 49 (MX w f s) = some (v, MX w f (upd s 14 1)) := by
    intro v
    unfold F_M_number_31 F_M_number_36 F_M_number_50
    rw [bz1, Option.bind_some, (MX_M M f s).pf_ (k := 14) (by omega), Option.bind_some, MX_P, (MX_M M f (upd s 14 1)).gi14, Option.bind_some, upd_s, if_neg (by decide)]
  have k23 := hv.ct_.2.2.2
  have vb := hv.bd.2.2.1
  unfold F_M_number F_M_number_0
  rw [(MX_M M f s).gi13, Option.bind_some, (MX_M M f s).gi14, Option.bind_some]
  by_cases hb : s 14 = 0
  · rw [if_pos hb, (MX_M M f s).gi10, Option.bind_some, hs.2.1]
    by_cases c : T.kd = 20
    · rw [if_pos (show nI T.kd = 20 by rw [c]; rfl), hs.2.2.2.2, hx, hy, M_in, Option.bind_some]
      dsimp only
      rw [if_pos, key]
      · exact ⟨_, rfl⟩
      · rw [bI_0]
        rintro ⟨z1, z2⟩
        rw [nI_leI (by omega) (by omega)] at z1 z2
        exact hc hb ⟨hv.ct_.1.mp c, z1, z2⟩
    · rw [if_neg (show ¬ nI T.kd = 20 from fun z => c ((nI_eq (b := 20) (by omega) (by omega)).mp z)), key]
      exact ⟨_, rfl⟩
  · rw [if_neg hb, key]
    exact ⟨_, rfl⟩
theorem MX_perhaps (M : MM w h s0) (A : MA h a) (hn : n ≤ 120) {f s : Nat → Int32} {T : Tk} (hv : VT a n T) (hs : MT n s T) (hb : s 14 = 0) {k lo hi : Nat} (hk : k ≤ 23) (hh : hi ≤ 9999) (hl : lo ≤ hi) {t x y : Int32} (z : Int32) (ht : t = nI k) (hx : x = nI lo) (hy : y = nI hi) : ∃ s' v, F_M_perhaps 49 t x y z (MX w f s) = some (v, MX w f s') ∧ MT n s' (pPart a n k lo hi T).2.2 ∧ s' 3 = s 3 ∧ ((pPart a n k lo hi T).1 = true → v = oV (pPart a n k lo hi T).2.1 z ∧ s' 14 = 0) ∧ (¬ (pPart a n k lo hi T).1 = true → s' 14 = 1) := by
  unfold F_M_perhaps F_M_perhaps_0 F_M_perhaps_19
  rw [(MX_M M f s).ob_, Option.bind_some]
  by_cases c : T.kd = k
  · obtain ⟨s1, e1, h1, h14, h3⟩ := MX_takes_t M A hn (f := f) hv hs hb (x := t) (by rw [ht, c])
    have hv1 := hv.nx.1
    rw [e1, Option.bind_some]
    dsimp only
    rw [if_neg (by decide), (MX_M M f s1).ob_, Option.bind_some]
    by_cases c2 : nq (tk a n T.e) lo hi
    · obtain ⟨s2, e2, h21, h214, h23⟩ := MX_number_t M A hn (f := f) hv1 h1 h14 c2 hh hx hy
      rw [e2, Option.bind_some, pPart_t c c2]
      exact ⟨s2, _, rfl, h21, by rw [h23, h3], fun _ => ⟨rfl, h214⟩, fun z => absurd rfl z⟩
    · obtain ⟨v, e2⟩ := MX_number_f M (f := f) hv1 h1 (fun _ => c2) hh hl hx hy
      rw [e2, Option.bind_some, pPart_f c c2]
      exact ⟨_, v, rfl, MT_14 h1 1, by rw [upd_n (by omega), h3], fun z => absurd z (by decide : ¬ false = true), fun _ => upd_s⟩
  · rw [MX_takes_f M hs hv.ct_.2.2.2 hk (fun _ => c) ht, Option.bind_some]
    dsimp only
    rw [if_pos rfl, pPart_n c]
    exact ⟨s, z, rfl, hs, rfl, fun _ => ⟨rfl, hb⟩, fun z => absurd rfl z⟩
theorem MX_perhaps_b (M : MM w h s0) {f s : Nat → Int32} {T : Tk} (hv : VT a n T) (hs : MT n s T) (hb : s 14 = 1) {k : Nat} (hk : k ≤ 23) {t x y z : Int32} (ht : t = nI k) : F_M_perhaps 49 t x y z (MX w f s) = some (z, MX w f s) := by
  unfold F_M_perhaps F_M_perhaps_0 F_M_perhaps_19
  rw [(MX_M M f s).ob_, Option.bind_some, MX_takes_f M hs hv.ct_.2.2.2 hk (fun z => absurd (hb.symm.trans z) (by decide)) ht, Option.bind_some]
  dsimp only
  rw [if_pos rfl]
theorem MX_98_b (M : MM w h s0) {f s : Nat → Int32} (hb : s 14 = 1) (x1 x2 x3 x4 x5 y : Int32) : F_M_depositItem_98 49 x1 x2 x3 x4 x5 y (MX w f s) = some (MX w f s) := by
  unfold F_M_depositItem_98 F_M_depositItem_143
  rw [(MX_M M f s).gi14, Option.bind_some, hb, if_neg (by decide)]
theorem MX_98 (M : MM w h s0) {f s : Nat → Int32} (hf : Wf f) (hd : dep f < 8) (hb : s 14 = 0) (x1 x2 x3 x4 x5 y : Int32) : F_M_depositItem_98 49 x1 x2 x3 x4 x5 y (MX w f s) = some (MX w (adD f (dep f) x1 x2 (if 0 ≤ x3 then x3 else nI (10 * dep f)) x4 x5 y) s) := by
  unfold F_M_depositItem_98 F_M_depositItem_143
  have e := M_comes (MX_M M f s) (by rw [hset_self]; exact hf) (by rw [hset_self]; exact hd) x1 x2 x3
  rw [hset_self, MX_W] at e
  rw [(MX_M M f s).gi14, Option.bind_some, if_pos hb, (MX_M M f s).ob_, Option.bind_some, e, Option.bind_some]
  dsimp only
  rw [(MX_M M _ s).ob_, Option.bind_some, M_put (MX_M M _ s) hd (e := 3) (y := 3) (by omega) rfl rfl, Option.bind_some, hset_self, MX_W, show 11 + 6 * dep f + 3 = 14 + 6 * dep f by omega, adD_3]
  rw [(MX_M M _ s).ob_, Option.bind_some, M_put (MX_M M _ s) hd (e := 4) (y := 4) (by omega) rfl rfl, Option.bind_some, hset_self, MX_W, show 11 + 6 * dep f + 4 = 15 + 6 * dep f by omega, adD_4]
  rw [(MX_M M _ s).ob_, Option.bind_some, M_put (MX_M M _ s) hd (e := 5) (y := 5) (by omega) rfl rfl, Option.bind_some, hset_self, MX_W, show 11 + 6 * dep f + 5 = 16 + 6 * dep f by omega, adD_5]
theorem MX_deposit (M : MM w h s0) (A : MA h a) (hn : n ≤ 120) {f s : Nat → Int32} {T : Tk} (hf : Wf f) (hv : VT a n T) (hs : MT n s T) : MO w n f (s 3) (depI a n f T) (F_M_depositItem 49 (MX w f s)) := by
  unfold F_M_depositItem F_M_depositItem_0 depI
  obtain ⟨h8, h3⟩ := Wf_dep hf
  rw [(MX_M M f s).gi10, Option.bind_some, (MX_M M f s).gr0, Option.bind_some, (MX_M M f s).rd0 (i := 3) (x := 3) (by omega) rfl, Option.bind_some, hset_self, h3, hs.2.1]
  unfold F_M_depositItem_22
  by_cases c : dep f < 8
  case neg =>
    rw [if_pos (show nI (dep f) = 8 by rw [show dep f = 8 by omega]; rfl), if_neg c, bz1, Option.bind_some, (MX_M M f s).pf_ (k := 14) (by omega), Option.bind_some, MX_P, (MX_M M f (upd s 14 1)).gi14, Option.bind_some, upd_s, if_neg (by decide)]
    exact MO_f rfl (MT_14 hs 1) (upd_n (by omega)) upd_s
  rw [if_neg (show ¬ nI (dep f) = 8 from fun z => by have := (nI_eq (b := 8) (by omega) (by omega)).mp z; omega), if_pos c, bz0, Option.bind_some, (MX_M M f s).pf_ (k := 14) (by omega), Option.bind_some, MX_P, (MX_M M f (upd s 14 0)).gi14, Option.bind_some, upd_s, if_pos rfl, (MX_M M f (upd s 14 0)).ob_, Option.bind_some]
  obtain ⟨s1, e1, ht1, hb1, h31⟩ := MX_reads M A hn (f := f) hv (MT_14 hs 0)
  rw [upd_s] at hb1
  rw [upd_n (by omega)] at h31
  have hv1 := hv.nx.1
  rw [e1, Option.bind_some]
  obtain ⟨s2, v2, e2, ht2, h32, ok2, no2⟩ := MX_perhaps M A hn (f := f) hv1 ht1 hb1 (k := 7) (lo := 0) (hi := 15) (t := 7) (x := 0) (y := 15) (by omega) (by omega) (by omega) 0 rfl rfl rfl
  rw [h31] at h32
  have hv2 := (hv1.part 7 0 15).1
  unfold dep1
  rw [(MX_M M f s1).ob_, Option.bind_some, e2, Option.bind_some]
  dsimp only
  by_cases c2 : (pPart a n 7 0 15 (tk a n T.e)).1 = true
  case neg =>
    have hb := no2 c2
    rw [if_neg c2]
    rw [(MX_M M f s2).ob_, Option.bind_some, MX_perhaps_b M hv2 ht2 hb (k := 8) (t := 8) (by omega) rfl, Option.bind_some]
    dsimp only
    rw [(MX_M M f s2).ob_, Option.bind_some, MX_perhaps_b M hv2 ht2 hb (k := 9) (t := 9) (by omega) rfl, Option.bind_some]
    dsimp only
    rw [(MX_M M f s2).ob_, Option.bind_some, MX_perhaps_b M hv2 ht2 hb (k := 10) (t := 10) (by omega) rfl, Option.bind_some]
    dsimp only
    rw [(MX_M M f s2).ob_, Option.bind_some, MX_takes_f M ht2 hv2.ct_.2.2.2 (k := 11) (x := 11) (by omega) (fun z => absurd (hb.symm.trans z) (by decide)) rfl, Option.bind_some]
    dsimp only
    rw [if_pos rfl, MX_98_b M hb]
    exact MO_f rfl (ht2) (h32) hb
  obtain ⟨w2, hb2⟩ := ok2 c2
  rw [if_pos c2, w2]
  obtain ⟨s3, v3, e3, ht3, h33, ok3, no3⟩ := MX_perhaps M A hn (f := f) hv2 ht2 hb2 (k := 8) (lo := 0) (hi := 99) (t := 8) (x := 0) (y := 99) (by omega) (by omega) (by omega) (-1) rfl rfl rfl
  rw [h32] at h33
  have hv3 := (hv2.part 8 0 99).1
  unfold dep2
  rw [(MX_M M f s2).ob_, Option.bind_some, e3, Option.bind_some]
  dsimp only
  by_cases c3 : (pPart a n 8 0 99 (pPart a n 7 0 15 (tk a n T.e)).2.2).1 = true
  case neg =>
    have hb := no3 c3
    rw [if_neg c3]
    rw [(MX_M M f s3).ob_, Option.bind_some, MX_perhaps_b M hv3 ht3 hb (k := 9) (t := 9) (by omega) rfl, Option.bind_some]
    dsimp only
    rw [(MX_M M f s3).ob_, Option.bind_some, MX_perhaps_b M hv3 ht3 hb (k := 10) (t := 10) (by omega) rfl, Option.bind_some]
    dsimp only
    rw [(MX_M M f s3).ob_, Option.bind_some, MX_takes_f M ht3 hv3.ct_.2.2.2 (k := 11) (x := 11) (by omega) (fun z => absurd (hb.symm.trans z) (by decide)) rfl, Option.bind_some]
    dsimp only
    rw [if_pos rfl, MX_98_b M hb]
    exact MO_f rfl (ht3) (h33) hb
  obtain ⟨w3, hb3⟩ := ok3 c3
  rw [if_pos c3, w3]
  have hst : (pPart a n 8 0 99 (pPart a n 7 0 15 (tk a n T.e)).2.2).2.1 = none ∨ ∃ v, (pPart a n 8 0 99 (pPart a n 7 0 15 (tk a n T.e)).2.2).2.1 = some v ∧ v ≤ 99 := by
    rcases part_v (d := 0) 8 0 99 c3 with e | ⟨v, e, -, e4⟩
    · exact Or.inl e
    · exact Or.inr ⟨v, e, e4⟩
  obtain ⟨s4, v4, e4, ht4, h34, ok4, no4⟩ := MX_perhaps M A hn (f := f) hv3 ht3 hb3 (k := 9) (lo := 0) (hi := 9999) (t := 9) (x := 0) (y := 9999) (by omega) (by omega) (by omega) 0 rfl rfl rfl
  rw [h33] at h34
  have hv4 := (hv3.part 9 0 9999).1
  unfold dep3
  rw [(MX_M M f s3).ob_, Option.bind_some, e4, Option.bind_some]
  dsimp only
  by_cases c4 : (pPart a n 9 0 9999 (pPart a n 8 0 99 (pPart a n 7 0 15 (tk a n T.e)).2.2).2.2).1 = true
  case neg =>
    have hb := no4 c4
    rw [if_neg c4]
    rw [(MX_M M f s4).ob_, Option.bind_some, MX_perhaps_b M hv4 ht4 hb (k := 10) (t := 10) (by omega) rfl, Option.bind_some]
    dsimp only
    rw [(MX_M M f s4).ob_, Option.bind_some, MX_takes_f M ht4 hv4.ct_.2.2.2 (k := 11) (x := 11) (by omega) (fun z => absurd (hb.symm.trans z) (by decide)) rfl, Option.bind_some]
    dsimp only
    rw [if_pos rfl, MX_98_b M hb]
    exact MO_f rfl (ht4) (h34) hb
  obtain ⟨w4, hb4⟩ := ok4 c4
  rw [if_pos c4, w4]
  obtain ⟨s5, v5, e5, ht5, h35, ok5, no5⟩ := MX_perhaps M A hn (f := f) hv4 ht4 hb4 (k := 10) (lo := 0) (hi := 99) (t := 10) (x := 0) (y := 99) (by omega) (by omega) (by omega) 0 rfl rfl rfl
  rw [h34] at h35
  have hv5 := (hv4.part 10 0 99).1
  unfold dep4
  rw [(MX_M M f s4).ob_, Option.bind_some, e5, Option.bind_some]
  dsimp only
  by_cases c5 : (pPart a n 10 0 99 (pPart a n 9 0 9999 (pPart a n 8 0 99 (pPart a n 7 0 15 (tk a n T.e)).2.2).2.2).2.2).1 = true
  case neg =>
    have hb := no5 c5
    rw [if_neg c5]
    rw [(MX_M M f s5).ob_, Option.bind_some, MX_takes_f M ht5 hv5.ct_.2.2.2 (k := 11) (x := 11) (by omega) (fun z => absurd (hb.symm.trans z) (by decide)) rfl, Option.bind_some]
    dsimp only
    rw [if_pos rfl, MX_98_b M hb]
    exact MO_f rfl (ht5) (h35) hb
  obtain ⟨w5, hb5⟩ := ok5 c5
  rw [if_pos c5, w5]
  unfold dep5
  rw [(MX_M M f s5).ob_, Option.bind_some]
  by_cases c6 : (pPart a n 10 0 99 (pPart a n 9 0 9999 (pPart a n 8 0 99 (pPart a n 7 0 15 (tk a n T.e)).2.2).2.2).2.2).2.2.kd = 11
  · obtain ⟨s6, e6, ht6, hb6, h36⟩ := MX_takes_t M A hn (f := f) hv5 ht5 hb5 (x := 11) (by rw [c6]; rfl)
    rw [e6, Option.bind_some, if_pos c6]
    dsimp only
    rw [if_neg (by decide), MX_98 M hf c hb6, stub_v hst]
    exact MO_t rfl ht6 (by rw [h36, h35]) hb6
  · rw [MX_takes_f M ht5 hv5.ct_.2.2.2 (k := 11) (x := 11) (by omega) (fun _ => c6) rfl, Option.bind_some, if_neg c6]
    dsimp only
    rw [if_pos rfl, MX_98 M hf c hb5, stub_v hst]
    exact MO_t rfl ht5 (h35) hb5
theorem MX_girl (M : MM w h s0) (A : MA h a) (hn : n ≤ 120) {f s : Nat → Int32} {T : Tk} (hf : Wf f) (hv : VT a n T) (hs : MT n s T) : MO w n f (s 3) (girI a n f T) (F_M_girlItem 49 (MX w f s)) := by
  unfold F_M_girlItem F_M_girlItem_0 girI
  obtain ⟨h6, h4⟩ := Wf_grl hf
  rw [(MX_M M f s).gr0, Option.bind_some, (MX_M M f s).rd0 (i := 4) (x := 4) (by omega) rfl, Option.bind_some, hset_self, h4]
  unfold F_M_girlItem_17
  by_cases c : grl f < 6
  case neg =>
    rw [if_pos (show nI (grl f) = 6 by rw [show grl f = 6 by omega]; rfl), if_neg c, bz1, Option.bind_some, (MX_M M f s).pf_ (k := 14) (by omega), Option.bind_some, MX_P, (MX_M M f (upd s 14 1)).gi14, Option.bind_some, upd_s, if_neg (by decide)]
    exact MO_f rfl (MT_14 hs 1) (upd_n (by omega)) upd_s
  rw [if_neg (show ¬ nI (grl f) = 6 from fun z => by have := (nI_eq (b := 6) (by omega) (by omega)).mp z; omega), if_pos c, bz0, Option.bind_some, (MX_M M f s).pf_ (k := 14) (by omega), Option.bind_some, MX_P, (MX_M M f (upd s 14 0)).gi14, Option.bind_some, upd_s, if_pos rfl, (MX_M M f (upd s 14 0)).ob_, Option.bind_some]
  obtain ⟨s1, e1, ht1, hb1, h31⟩ := MX_reads M A hn (f := f) hv (MT_14 hs 0)
  rw [upd_s] at hb1
  rw [upd_n (by omega)] at h31
  have hv1 := hv.nx.1
  obtain ⟨s2, v2, e2, ht2, h32, ok2, no2⟩ := MX_perhaps M A hn (f := f) hv1 ht1 hb1 (k := 13) (lo := 1) (hi := 99) (t := 13) (x := 1) (y := 99) (by omega) (by omega) (by omega) 50 rfl rfl rfl
  rw [h31] at h32
  rw [e1, Option.bind_some, (MX_M M f s1).ob_, Option.bind_some, e2, Option.bind_some]
  dsimp only
  unfold F_M_girlItem_57
  rw [(MX_M M f s2).gi14, Option.bind_some]
  by_cases c2 : (pPart a n 13 1 99 (tk a n T.e)).1 = true
  · obtain ⟨w2, hb2⟩ := ok2 c2
    have e := M_enters (MX_M M f s2) (by rw [hset_self]; exact hf) (by rw [hset_self]; exact c) v2
    rw [hset_self, MX_W] at e
    rw [if_pos hb2, (MX_M M f s2).ob_, Option.bind_some, e, Option.bind_some, if_pos c2, w2]
    exact MO_t rfl ht2 (h32) hb2
  · have hb2 := no2 c2
    rw [if_neg c2, hb2, if_neg (by decide)]
    exact MO_f rfl (ht2) (h32) hb2
theorem MX_stand_b (M : MM w h s0) {f s : Nat → Int32} (hb : s 14 = 1) (x1 x2 x3 : Int32) : (gi (MX w f s) 49 4 14).bind (fun v7 => if v7 = 0 then (gr (MX w f s) 49 4 0).bind fun a9 => (wr (MX w f s) a9 (5 + x1) ((100 * x2) + x3)).bind fun w10 => F_M_standItem_43 w10 else F_M_standItem_43 (MX w f s)) = some (MX w f s) := by
  rw [(MX_M M f s).gi14, Option.bind_some, hb, if_neg (by decide)]; rfl
theorem MX_stand (M : MM w h s0) (A : MA h a) (hn : n ≤ 120) {f s : Nat → Int32} {T : Tk} (hv : VT a n T) (hs : MT n s T) (hb : s 14 = 0) : MO w n f (s 3) (sta1 a n f T) (F_M_standItem 49 (MX w f s)) := by
  unfold F_M_standItem F_M_standItem_0 sta1
  rw [(MX_M M f s).ob_, Option.bind_some]
  by_cases c1 : nq T 0 5
  case neg =>
    obtain ⟨u1, e1⟩ := MX_number_f M (f := f) hv hs (lo := 0) (hi := 5) (x := 0) (y := 5) (fun _ => c1) (by omega) (by omega) rfl rfl
    have ht1 := MT_14 hs 1
    obtain ⟨u2, e2⟩ := MX_number_f M (f := f) hv ht1 (lo := 0) (hi := 5) (x := 0) (y := 5) (fun z => absurd (upd_s.symm.trans z) (by decide)) (by omega) (by omega) rfl rfl
    obtain ⟨u3, e3⟩ := MX_number_f M (f := f) hv (MT_14 ht1 1) (lo := 0) (hi := 15) (x := 0) (y := 15) (fun z => absurd (upd_s.symm.trans z) (by decide)) (by omega) (by omega) rfl rfl
    rw [e1, Option.bind_some, (MX_M M f _).ob_, Option.bind_some, e2, Option.bind_some, (MX_M M f _).ob_, Option.bind_some, e3, Option.bind_some, if_neg c1, MX_stand_b M upd_s]
    exact MO_f rfl (MT_14 (MT_14 ht1 1) 1) (by rw [upd_n (by omega), upd_n (by omega), upd_n (by omega)]) upd_s
  obtain ⟨s1, e1, ht1, hb1, h31⟩ := MX_number_t M A hn (f := f) hv hs hb (lo := 0) (hi := 5) (x := 0) (y := 5) c1 (by omega) rfl rfl
  have hv1 := hv.nx.1
  unfold sta2
  rw [e1, Option.bind_some, if_pos c1]
  dsimp only
  rw [(MX_M M f s1).ob_, Option.bind_some]
  by_cases c2 : nq (tk a n T.e) 0 5
  case neg =>
    obtain ⟨u2, e2⟩ := MX_number_f M (f := f) hv1 ht1 (lo := 0) (hi := 5) (x := 0) (y := 5) (fun _ => c2) (by omega) (by omega) rfl rfl
    have ht2 := MT_14 ht1 1
    obtain ⟨u3, e3⟩ := MX_number_f M (f := f) hv1 ht2 (lo := 0) (hi := 15) (x := 0) (y := 15) (fun z => absurd (upd_s.symm.trans z) (by decide)) (by omega) (by omega) rfl rfl
    rw [e2, Option.bind_some, (MX_M M f _).ob_, Option.bind_some, e3, Option.bind_some, if_neg c2, MX_stand_b M upd_s]
    exact MO_f rfl (MT_14 ht2 1) (by rw [upd_n (by omega), upd_n (by omega), h31]) upd_s
  obtain ⟨s2, e2, ht2, hb2, h32⟩ := MX_number_t M A hn (f := f) hv1 ht1 hb1 (lo := 0) (hi := 5) (x := 0) (y := 5) c2 (by omega) rfl rfl
  have hv2 := hv1.nx.1
  unfold sta3
  rw [e2, Option.bind_some, if_pos c2]
  dsimp only
  rw [(MX_M M f s2).ob_, Option.bind_some]
  by_cases c3 : nq (tk a n (tk a n T.e).e) 0 15
  case neg =>
    obtain ⟨u3, e3⟩ := MX_number_f M (f := f) hv2 ht2 (lo := 0) (hi := 15) (x := 0) (y := 15) (fun _ => c3) (by omega) (by omega) rfl rfl
    rw [e3, Option.bind_some, if_neg c3, MX_stand_b M upd_s]
    exact MO_f rfl (MT_14 ht2 1) (by rw [upd_n (by omega), h32, h31]) upd_s
  obtain ⟨s3, e3, ht3, hb3, h33⟩ := MX_number_t M A hn (f := f) hv2 ht2 hb2 (lo := 0) (hi := 15) (x := 0) (y := 15) c3 (by omega) rfl rfl
  have b1 := c1.2.2
  have e5 : (100 : Int32) * nI (tk a n T.e).v + nI (tk a n (tk a n T.e).e).v = nI (100 * (tk a n T.e).v + (tk a n (tk a n T.e).e).v) := by
    rw [show (100 : Int32) * nI (tk a n T.e).v = nI (100 * (tk a n T.e).v) from pk_mul 100 _, nI_add]
  rw [e3, Option.bind_some, if_pos c3]
  dsimp only
  rw [(MX_M M f s3).gi14, Option.bind_some, if_pos hb3, (MX_M M f s3).gr0, Option.bind_some, e5, (MX_M M f s3).wr0 (i := 5 + T.v) (by omega) (n5 rfl), Option.bind_some, hset_self, MX_W]
  exact MO_t rfl ht3 (by rw [h33, h32, h31]) hb3
theorem MX_item (M : MM w h s0) (A : MA h a) (hn : n ≤ 120) {f s : Nat → Int32} {T : Tk} (hf : Wf f) (hv : VT a n T) (hs : MT n s T) (hb : s 14 = 0) : MO w n f (s 3) (itm a n f T) (F_M_item 49 (MX w f s)) := by
  unfold F_M_item F_M_item_0 F_M_item_53 itm
  have k23 := hv.ct_.2.2.2
  rw [(MX_M M f s).gi10, Option.bind_some, hs.2.1]
  by_cases c1 : T.kd ≤ 6
  · obtain ⟨s1, g, e1, r⟩ := MX_deposit M A hn hf hv hs
    rw [if_neg (show ¬ (6 : Int32) < nI T.kd from nI_nlt (b := T.kd) (a := 6) c1 (by omega)), if_pos c1, (MX_M M f s).ob_, Option.bind_some, e1, Option.bind_some]
    exact MO_r rfl r
  · rw [if_pos (show (6 : Int32) < nI T.kd from nI_lt (a := 6) (by omega) (by omega)), if_neg c1, Option.bind_some]
    by_cases c2 : T.kd = 12
    · obtain ⟨s1, g, e1, r⟩ := MX_girl M A hn hf hv hs
      rw [if_pos (show nI T.kd = 12 by rw [c2]; rfl), if_pos c2, (MX_M M f s).ob_, Option.bind_some, e1, Option.bind_some]
      exact MO_r rfl r
    · rw [if_neg (show ¬ nI T.kd = 12 from fun z => c2 ((nI_eq (b := 12) (by omega) (by omega)).mp z)), if_neg c2, (MX_M M f s).ob_, Option.bind_some]
      by_cases c3 : T.kd = 14
      · obtain ⟨s1, e1, ht1, hb1, h31⟩ := MX_takes_t M A hn (f := f) hv hs hb (x := 14) (by rw [c3]; rfl)
        obtain ⟨s2, g, e2, r⟩ := MX_stand M A hn (f := f) hv.nx.1 ht1 hb1
        rw [e1, Option.bind_some, if_pos c3]
        dsimp only
        rw [if_neg (by decide), (MX_M M f s1).ob_, Option.bind_some, e2, Option.bind_some]
        rw [h31] at r
        exact MO_r rfl r
      · rw [MX_takes_f M hs k23 (k := 14) (x := 14) (by omega) (fun _ => c3) rfl, Option.bind_some, if_neg c3]
        dsimp only
        rw [if_pos rfl, bz1, Option.bind_some, (MX_M M f s).pf_ (k := 14) (by omega), Option.bind_some, MX_P]
        exact MO_f rfl (MT_14 hs 1) (upd_n (by omega)) upd_s
theorem MX_text (M : MM w h s0) (A : MA h a) (hn : n ≤ 120) : ∀ (m k i : Nat) (f s : Nat → Int32) (T : Tk), Wf f → VT a n T → MT n s T → s 14 = 0 → 1 ≤ i → i ≤ T.b + 1 → i + k = 121 → k < m → ∃ s' g j, ((F_M_item 49 (MX w f s)).bind fun p => F_M_text_24 m 49 (nI i) p) = F_M_text_65 49 (nI j) 49 (if (txtR a n k f T i).1 = true then 0 else 1) (MX w g s') ∧ s' 3 = s 3 ∧ Tl f g ∧ ((txtR a n k f T i).1 = true → g = (txtR a n k f T i).2.1 ∧ j = (txtR a n k f T i).2.2 ∧ Wf g ∧ 1 ≤ j ∧ j ≤ 120) ∧ (¬ (txtR a n k f T i).1 = true → s' 11 = nI (txtR a n k f T i).2.2) ∧ (txtR a n k f T i).2.2 ≤ 120 := by
  intro m
  induction m with
  | zero => intro k i f s T _ _ _ _ _ _ _ hk; exact absurd hk (by omega)
  | succ m ih =>
    intro k i f s T hf hv hs hb h1i hT hi hm
    obtain ⟨s1, g1, e1, ht1, h31, ok1, no1⟩ := MX_item M A hn hf hv hs hb
    have hI := itm_ok hf hv
    have hU := hI.1
    have hk := hU.ct_
    have hbd := hv.bd
    have hUb := hU.bd
    have i1 : itm a n f T = (false, f, T) ∨ T.b < T.e := by
      rcases hbd.2.2.2.1 with z | z
      · left
        have := hv.ct_.2.2.1.mpr z
        unfold itm
        rw [if_neg (by omega), if_neg (by omega), if_neg (by omega)]
      · exact Or.inr z
    rw [e1, Option.bind_some, F_M_text_24, (MX_M M g1 s1).ob_, Option.bind_some]
    by_cases ok : (itm a n f T).1 = true
    case neg =>
      obtain ⟨eg, hb1⟩ := no1 ok
      have hr : (txtR a n k f T i).1 = false ∧ (txtR a n k f T i).2.2 = (itm a n f T).2.2.b := by
        cases k with
        | zero =>
          rcases i1 with z | z
          · rw [z]; exact ⟨rfl, rfl⟩
          · exfalso; omega
        | succ k => rw [txtR, if_neg ok]; exact ⟨rfl, rfl⟩
      have hrn : ¬ (txtR a n k f T i).1 = true := by rw [hr.1]; decide
      rw [MX_takes_f M ht1 hk.2.2.2 (k := 21) (x := 21) (by omega) (fun z => absurd (hb1.symm.trans z) (by decide)) rfl, Option.bind_some]
      dsimp only
      rw [if_pos rfl, (MX_M M g1 s1).gi14, Option.bind_some, hb1, if_neg (by decide), if_neg hrn]
      refine ⟨s1, g1, i, rfl, h31, by rw [eg]; exact Tl.rf f, fun z => absurd z hrn, fun _ => ?_, by rw [hr.2]; omega⟩
      rw [hr.2]; exact ht1.2.2.1
    obtain ⟨eg, hb1⟩ := ok1 ok
    obtain ⟨wf1, tl1⟩ := hI.2.2 ok
    subst eg
    have hlt : T.b < T.e := by
      rcases i1 with z | z
      · rw [z] at ok; exact absurd ok (by decide : ¬ false = true)
      · exact z
    have hk1 : 1 ≤ k := by
      omega
    obtain ⟨k, rfl⟩ : ∃ k', k = k' + 1 := ⟨k - 1, by omega⟩
    by_cases c21 : (itm a n f T).2.2.kd = 21
    · obtain ⟨s2, e2, ht2, hb2, h32⟩ := MX_takes_t M A hn (f := (itm a n f T).2.1) hU ht1 hb1 (x := 21) (by rw [c21]; rfl)
      have hr : txtR a n (k + 1) f T i = txtR a n k (itm a n f T).2.1 (tk a n (itm a n f T).2.2.e) (i + 1) := by rw [txtR, if_pos ok, if_neg (by omega), if_pos c21]
      rw [e2, Option.bind_some]
      dsimp only
      rw [if_neg (by decide), (MX_M M _ s2).ob_, Option.bind_some, nI_1, hr]
      have hnx := hU.nx
      have hIe := hI.2.1
      obtain ⟨s3, g3, j, r1, r2, r3, r4, r5, r6⟩ := ih k (i + 1) _ s2 _ wf1 hnx.1 ht2 hb2 (by omega) (by omega) (by omega) (by omega)
      exact ⟨s3, g3, j, r1, by rw [r2, h32, h31], tl1.tr r3, r4, r5, r6⟩
    · rw [MX_takes_f M ht1 hk.2.2.2 (k := 21) (x := 21) (by omega) (fun _ => c21) rfl, Option.bind_some]
      dsimp only
      rw [if_pos rfl, (MX_M M _ s1).gi14, Option.bind_some, if_pos hb1, (MX_M M _ s1).gi10, Option.bind_some, ht1.2.1]
      by_cases c22 : (itm a n f T).2.2.kd = 22
      · have hr : txtR a n (k + 1) f T i = (true, (itm a n f T).2.1, i) := by rw [txtR, if_pos ok, if_pos c22]
        rw [if_pos (show nI (itm a n f T).2.2.kd = 22 by rw [c22]; rfl), hr, if_pos (Eq.refl true)]
        exact ⟨s1, _, i, rfl, h31, tl1, fun _ => ⟨rfl, rfl, wf1, by omega, by omega⟩, fun z => absurd rfl z, by show i ≤ 120; omega⟩
      · have hr : txtR a n (k + 1) f T i = (false, (itm a n f T).2.1, (itm a n f T).2.2.b) := by rw [txtR, if_pos ok, if_neg c22, if_neg c21]
        rw [if_neg (show ¬ nI (itm a n f T).2.2.kd = 22 from fun z => c22 ((nI_eq (b := 22) (by omega) (by omega)).mp z)), hr, if_neg (show ¬ false = true by decide)]
        exact ⟨s1, _, i, rfl, h31, tl1, fun z => absurd z (by decide : ¬ false = true), fun _ => ht1.2.2.1, by show (itm a n f T).2.2.b ≤ 120; omega⟩
end MTX
