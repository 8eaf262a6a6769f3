/-! A TEXT, ITEM BY ITEM -/
def oV (o : Option Nat) (d : Int32) : Int32 := match o with
  | none => d
  | some v => nI v
def pPart (a : Nat → Nat) (n k lo hi : Nat) (T : Tk) : Bool × Option Nat × Tk := if T.kd = k then (if nq (tk a n T.e) lo hi then (true, some (tk a n T.e).v, tk a n (tk a n T.e).e) else (false, none, tk a n T.e)) else (true, none, T)
section PAR
variable (a : Nat → Nat) (n : Nat)
def dep5 (f : Nat → Int32) (k : Nat) (x1 x2 x3 x4 : Int32) (T : Tk) : Bool × (Nat → Int32) × Tk := if T.kd = 11 then (true, adD f (dep f) (nI k) x1 x2 x3 x4 1, tk a n T.e) else (true, adD f (dep f) (nI k) x1 x2 x3 x4 0, T)
def dep4 (f : Nat → Int32) (k : Nat) (x1 x2 x3 : Int32) (T : Tk) : Bool × (Nat → Int32) × Tk := if (pPart a n 10 0 99 T).1 = true then dep5 a n f k x1 x2 x3 (oV (pPart a n 10 0 99 T).2.1 0) (pPart a n 10 0 99 T).2.2 else (false, f, (pPart a n 10 0 99 T).2.2)
def dep3 (f : Nat → Int32) (k : Nat) (x1 x2 : Int32) (T : Tk) : Bool × (Nat → Int32) × Tk := if (pPart a n 9 0 9999 T).1 = true then dep4 a n f k x1 x2 (oV (pPart a n 9 0 9999 T).2.1 0) (pPart a n 9 0 9999 T).2.2 else (false, f, (pPart a n 9 0 9999 T).2.2)
def dep2 (f : Nat → Int32) (k : Nat) (x1 : Int32) (T : Tk) : Bool × (Nat → Int32) × Tk := if (pPart a n 8 0 99 T).1 = true then dep3 a n f k x1 (oV (pPart a n 8 0 99 T).2.1 (nI (10 * dep f))) (pPart a n 8 0 99 T).2.2 else (false, f, (pPart a n 8 0 99 T).2.2)
def dep1 (f : Nat → Int32) (k : Nat) (T : Tk) : Bool × (Nat → Int32) × Tk := if (pPart a n 7 0 15 T).1 = true then dep2 a n f k (oV (pPart a n 7 0 15 T).2.1 0) (pPart a n 7 0 15 T).2.2 else (false, f, (pPart a n 7 0 15 T).2.2)
def depI (f : Nat → Int32) (T : Tk) : Bool × (Nat → Int32) × Tk := if dep f < 8 then dep1 a n f T.kd (tk a n T.e) else (false, f, T)
def girI (f : Nat → Int32) (T : Tk) : Bool × (Nat → Int32) × Tk := if grl f < 6 then (if (pPart a n 13 1 99 (tk a n T.e)).1 = true then (true, adG f (grl f) (oV (pPart a n 13 1 99 (tk a n T.e)).2.1 50), (pPart a n 13 1 99 (tk a n T.e)).2.2) else (false, f, (pPart a n 13 1 99 (tk a n T.e)).2.2)) else (false, f, T)
def sta3 (f : Nat → Int32) (i g : Nat) (T : Tk) : Bool × (Nat → Int32) × Tk := if nq T 0 15 then (true, upd f (5 + i) (nI (100 * g + T.v)), tk a n T.e) else (false, f, T)
def sta2 (f : Nat → Int32) (i : Nat) (T : Tk) : Bool × (Nat → Int32) × Tk := if nq T 0 5 then sta3 a n f i T.v (tk a n T.e) else (false, f, T)
def sta1 (f : Nat → Int32) (T : Tk) : Bool × (Nat → Int32) × Tk := if nq T 0 5 then sta2 a n f T.v (tk a n T.e) else (false, f, T)
def itm (f : Nat → Int32) (T : Tk) : Bool × (Nat → Int32) × Tk := if T.kd ≤ 6 then depI a n f T else if T.kd = 12 then girI a n f T else if T.kd = 14 then sta1 a n f (tk a n T.e) else (false, f, T)
def txtR : Nat → (Nat → Int32) → Tk → Nat → Bool × (Nat → Int32) × Nat
  | 0, f, T, _ => (false, f, T.b)
  | k + 1, f, T, i => if (itm a n f T).1 = true then (if (itm a n f T).2.2.kd = 22 then (true, (itm a n f T).2.1, i) else if (itm a n f T).2.2.kd = 21 then txtR k (itm a n f T).2.1 (tk a n (itm a n f T).2.2.e) (i + 1) else (false, (itm a n f T).2.1, (itm a n f T).2.2.b)) else (false, f, (itm a n f T).2.2.b)
/-- a token of this tape, not ahead of a place -/
def VT (T : Tk) : Prop := ∃ p, p ≤ n ∧ T = tk a n p
end PAR
section VTS
variable {a : Nat → Nat} {n : Nat} {T : Tk}
theorem VT.bd (h : VT a n T) : T.b ≤ T.e ∧ T.e ≤ n ∧ T.v ≤ 99999 ∧ (T.ct = 0 ∨ T.b < T.e) ∧ T.ct ≤ 4 := by
  obtain ⟨p, hp, rfl⟩ := h
  exact (tk_bd a hp).2
theorem VT.nx (h : VT a n T) : VT a n (tk a n T.e) ∧ T.e ≤ (tk a n T.e).b ∧ T.e ≤ (tk a n T.e).e := by
  have h1 := tk_bd a h.bd.2.1
  exact ⟨⟨T.e, h.bd.2.1, rfl⟩, h1.1, by omega⟩
theorem VT.kd_ (h : VT a n T) {k : Nat} (hk : k < 15) : T.kd = k ↔ wq a T k = true := by
  obtain ⟨p, hp, rfl⟩ := h
  exact tk_kd a n p hk
theorem VT.ct_ (h : VT a n T) : (T.kd = 20 ↔ T.ct = 2) ∧ (T.kd = 21 ↔ T.ct = 3) ∧ (T.kd = 22 ↔ T.ct = 0) ∧ T.kd ≤ 23 := by
  obtain ⟨p, hp, rfl⟩ := h
  exact tk_ct a n p
theorem VT.part (h : VT a n T) (k lo hi : Nat) : VT a n (pPart a n k lo hi T).2.2 ∧ T.e ≤ (pPart a n k lo hi T).2.2.e := by
  have h1 := h.nx
  have h2 := h1.1.nx
  unfold pPart
  split
  · split
    · exact ⟨h2.1, by show T.e ≤ (tk a n (tk a n T.e).e).e; omega⟩
    · exact ⟨h1.1, h1.2.2⟩
  · exact ⟨h, Nat.le_refl _⟩
theorem part_v (k lo hi : Nat) {d : Int32} (h : (pPart a n k lo hi T).1 = true) : (pPart a n k lo hi T).2.1 = none ∨ ∃ v, (pPart a n k lo hi T).2.1 = some v ∧ lo ≤ v ∧ v ≤ hi := by
  unfold pPart at h ⊢
  split
  · rename_i c1
    rw [if_pos c1] at h
    split
    · rename_i c2; exact Or.inr ⟨_, rfl, c2.2⟩
    · rename_i c2; rw [if_neg c2] at h; exact absurd h (by decide : ¬ false = true)
  · exact Or.inl rfl
theorem oV_bd {k lo hi : Nat} (hi9 : hi ≤ 9999) (h : (pPart a n k lo hi T).1 = true) {d : Int32} (hd : 0 ≤ d.toInt ∧ d.toInt ≤ hi) : 0 ≤ (oV (pPart a n k lo hi T).2.1 d).toInt ∧ (oV (pPart a n k lo hi T).2.1 d).toInt ≤ hi := by
  rcases part_v (d := d) k lo hi h with e | ⟨v, e, h1, h2⟩
  · rw [e]; exact hd
  · rw [e]
    show 0 ≤ (nI v).toInt ∧ (nI v).toInt ≤ hi
    rw [nI_toInt (by omega)]; omega
/-- an item goes on, and leaves the row well-formed -/
def IOK (a : Nat → Nat) (n : Nat) (f : Nat → Int32) (T : Tk) (r : Bool × (Nat → Int32) × Tk) : Prop := VT a n r.2.2 ∧ T.e ≤ r.2.2.e ∧ (r.1 = true → Wf r.2.1 ∧ Tl f r.2.1)
theorem adD_Tl {f : Nat → Int32} {d : Nat} (hd : d < 8) (k x1 x2 x3 x4 x5 : Int32) : Tl f (adD f d k x1 x2 x3 x4 x5) := ((((((((Tl.rf f).up (i := 3) (by omega) _).up (i := 11 + 6 * d) (by omega) _).up (i := 12 + 6 * d) (by omega) _).up (i := 13 + 6 * d) (by omega) _).up (i := 14 + 6 * d) (by omega) _).up (i := 15 + 6 * d) (by omega) _).up (i := 16 + 6 * d) (by omega) _)
theorem adG_Tl {f : Nat → Int32} {d : Nat} (hd : d < 6) (k : Int32) : Tl f (adG f d k) := (((((Tl.rf f).up (i := 4) (by omega) _).up (i := 59 + 3 * d) (by omega) _).up (i := 60 + 3 * d) (by omega) _).up (i := 61 + 3 * d) (by omega) _)
variable {f : Nat → Int32}
theorem dep5_ok (hf : Wf f) (hd : dep f < 8) {k : Nat} (hk : k ≤ 6) {x1 x2 x3 x4 : Int32} (h1 : 0 ≤ x1.toInt ∧ x1.toInt ≤ 15) (h2 : 0 ≤ x2.toInt ∧ x2.toInt ≤ 99) (h3 : 0 ≤ x3.toInt ∧ x3.toInt ≤ 9999) (h4 : 0 ≤ x4.toInt ∧ x4.toInt ≤ 99) (h : VT a n T) : IOK a n f T (dep5 a n f k x1 x2 x3 x4 T) := by
  have hk' : 0 ≤ (nI k).toInt ∧ (nI k).toInt ≤ 6 := by rw [nI_toInt (by omega)]; omega
  unfold dep5
  split
  · exact ⟨h.nx.1, h.nx.2.2, fun _ => ⟨adD_Wf hf hd hk' h1 h2 h3 h4 (by decide), adD_Tl hd _ _ _ _ _ _⟩⟩
  · exact ⟨h, Nat.le_refl _, fun _ => ⟨adD_Wf hf hd hk' h1 h2 h3 h4 (by decide), adD_Tl hd _ _ _ _ _ _⟩⟩
theorem IOK.tr {U : Tk} {r : Bool × (Nat → Int32) × Tk} (h : IOK a n f U r) (hU : T.e ≤ U.e) : IOK a n f T r := ⟨h.1, Nat.le_trans hU h.2.1, h.2.2⟩
theorem dep4_ok (hf : Wf f) (hd : dep f < 8) {k : Nat} (hk : k ≤ 6) {x1 x2 x3 : Int32} (h1 : 0 ≤ x1.toInt ∧ x1.toInt ≤ 15) (h2 : 0 ≤ x2.toInt ∧ x2.toInt ≤ 99) (h3 : 0 ≤ x3.toInt ∧ x3.toInt ≤ 9999) (h : VT a n T) : IOK a n f T (dep4 a n f k x1 x2 x3 T) := by
  have hp := h.part 10 0 99
  unfold dep4
  split
  · rename_i c
    exact (dep5_ok hf hd hk h1 h2 h3 (oV_bd (by omega) c (by decide)) hp.1).tr hp.2
  · exact ⟨hp.1, hp.2, fun z => absurd z (by decide : ¬ false = true)⟩
theorem dep3_ok (hf : Wf f) (hd : dep f < 8) {k : Nat} (hk : k ≤ 6) {x1 x2 : Int32} (h1 : 0 ≤ x1.toInt ∧ x1.toInt ≤ 15) (h2 : 0 ≤ x2.toInt ∧ x2.toInt ≤ 99) (h : VT a n T) : IOK a n f T (dep3 a n f k x1 x2 T) := by
  have hp := h.part 9 0 9999
  unfold dep3
  split
  · rename_i c
    exact (dep4_ok hf hd hk h1 h2 (oV_bd (by omega) c (by decide)) hp.1).tr hp.2
  · exact ⟨hp.1, hp.2, fun z => absurd z (by decide : ¬ false = true)⟩
theorem dep2_ok (hf : Wf f) (hd : dep f < 8) {k : Nat} (hk : k ≤ 6) {x1 : Int32} (h1 : 0 ≤ x1.toInt ∧ x1.toInt ≤ 15) (h : VT a n T) : IOK a n f T (dep2 a n f k x1 T) := by
  have hp := h.part 8 0 99
  unfold dep2
  split
  · rename_i c
    exact (dep3_ok hf hd hk h1 (oV_bd (by omega) c (by rw [nI_toInt (by omega)]; omega)) hp.1).tr hp.2
  · exact ⟨hp.1, hp.2, fun z => absurd z (by decide : ¬ false = true)⟩
theorem dep1_ok (hf : Wf f) (hd : dep f < 8) {k : Nat} (hk : k ≤ 6) (h : VT a n T) : IOK a n f T (dep1 a n f k T) := by
  have hp := h.part 7 0 15
  unfold dep1
  split
  · rename_i c
    exact (dep2_ok hf hd hk (oV_bd (by omega) c (by decide)) hp.1).tr hp.2
  · exact ⟨hp.1, hp.2, fun z => absurd z (by decide : ¬ false = true)⟩
theorem sta3_ok (hf : Wf f) {i g : Nat} (hi : i ≤ 5) (hg : g ≤ 5) (h : VT a n T) : IOK a n f T (sta3 a n f i g T) := by
  unfold sta3
  split
  · rename_i c3
    have b3 := c3.2.2
    refine ⟨h.nx.1, h.nx.2.2, fun _ => ⟨?_, (Tl.rf f).up (by omega) _⟩⟩
    refine Wf_upd hf (by omega) (by omega) (fun _ => ?_) (fun _ _ => ?_)
    · rw [hiB_li _ (by omega), nI_toInt (by omega)]; omega
    · rw [nI_toInt (by omega)]; omega
  · exact ⟨h, Nat.le_refl _, fun z => absurd z (by decide : ¬ false = true)⟩
theorem sta2_ok (hf : Wf f) {i : Nat} (hi : i ≤ 5) (h : VT a n T) : IOK a n f T (sta2 a n f i T) := by
  unfold sta2
  split
  · rename_i c2
    exact (sta3_ok hf hi c2.2.2 h.nx.1).tr h.nx.2.2
  · exact ⟨h, Nat.le_refl _, fun z => absurd z (by decide : ¬ false = true)⟩
theorem sta1_ok (hf : Wf f) (h : VT a n T) : IOK a n f T (sta1 a n f T) := by
  unfold sta1
  split
  · rename_i c1
    exact (sta2_ok hf c1.2.2 h.nx.1).tr h.nx.2.2
  · exact ⟨h, Nat.le_refl _, fun z => absurd z (by decide : ¬ false = true)⟩
theorem girI_ok (hf : Wf f) (h : VT a n T) : IOK a n f T (girI a n f T) := by
  have hx := h.nx
  unfold girI
  split
  · rename_i hg
    have hp := hx.1.part 13 1 99
    split
    · rename_i c
      have hb := oV_bd (a := a) (n := n) (T := tk a n T.e) (k := 13) (lo := 1) (hi := 99) (by omega) c (d := 50) (by decide)
      exact ⟨hp.1, Nat.le_trans hx.2.2 hp.2, fun _ => ⟨adG_Wf hf hg hb, adG_Tl hg _⟩⟩
    · exact ⟨hp.1, Nat.le_trans hx.2.2 hp.2, fun z => absurd z (by decide : ¬ false = true)⟩
  · exact ⟨h, Nat.le_refl _, fun z => absurd z (by decide : ¬ false = true)⟩
theorem itm_ok (hf : Wf f) (h : VT a n T) : IOK a n f T (itm a n f T) := by
  have hx := h.nx
  unfold itm
  split
  · rename_i c
    unfold depI
    split
    · rename_i hd; exact (dep1_ok hf hd c hx.1).tr hx.2.2
    · exact ⟨h, Nat.le_refl _, fun z => absurd z (by decide : ¬ false = true)⟩
  · split
    · exact girI_ok hf h
    · split
      · exact (sta1_ok hf hx.1).tr hx.2.2
      · exact ⟨h, Nat.le_refl _, fun z => absurd z (by decide : ¬ false = true)⟩
end VTS
/-! the row of a deposit, place by place -/
section ADD
variable (f : Nat → Int32) (d : Nat) (k x1 x2 x3 x4 x5 v : Int32)
theorem adD_5 : upd (adD f d k x1 x2 x3 x4 x5) (16 + 6 * d) v = adD f d k x1 x2 x3 x4 v := by unfold adD; rw [upd_u]
theorem adD_4 : upd (adD f d k x1 x2 x3 x4 x5) (15 + 6 * d) v = adD f d k x1 x2 x3 v x5 := by unfold adD; rw [upd_c _ (by omega), upd_u]
theorem adD_3 : upd (adD f d k x1 x2 x3 x4 x5) (14 + 6 * d) v = adD f d k x1 x2 v x4 x5 := by unfold adD; rw [upd_c _ (by omega), upd_c _ (show 15 + 6 * d ≠ 14 + 6 * d by omega), upd_u]
theorem adD_2 : upd (adD f d k x1 x2 x3 x4 x5) (13 + 6 * d) v = adD f d k x1 v x3 x4 x5 := by unfold adD; rw [upd_c _ (by omega), upd_c _ (show 15 + 6 * d ≠ 13 + 6 * d by omega), upd_c _ (show 14 + 6 * d ≠ 13 + 6 * d by omega), upd_u]
theorem adD_1 : upd (adD f d k x1 x2 x3 x4 x5) (12 + 6 * d) v = adD f d k v x2 x3 x4 x5 := by unfold adD; rw [upd_c _ (by omega), upd_c _ (show 15 + 6 * d ≠ 12 + 6 * d by omega), upd_c _ (show 14 + 6 * d ≠ 12 + 6 * d by omega), upd_c _ (show 13 + 6 * d ≠ 12 + 6 * d by omega), upd_u]
theorem adG_1 : upd (adG f d k) (60 + 3 * d) v = adG f d v := by unfold adG; rw [upd_c _ (by omega), upd_u]
end ADD
