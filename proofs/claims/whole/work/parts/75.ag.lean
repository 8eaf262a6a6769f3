/-! WHAT A DAY SEES: the girls' numbers change nothing of the rest -/
def agD (f g : Nat → Int32) : Prop := ∀ i, i < 59 → f i = g i
section AGD
variable {f g : Nat → Int32}
theorem gvs_ag (a : agD f g) {d : Nat} (hd : d < 8) (x : Int32) : gvs f d x = gvs g d x := by
  unfold gvs off rch shn eve
  rw [a (11 + 6 * d) (by omega), a (12 + 6 * d) (by omega), a (14 + 6 * d) (by omega), a (15 + 6 * d) (by omega), a (16 + 6 * d) (by omega)]
theorem lgN_ag (a : agD f g) (x : Int32) : ∀ (k d : Nat) (v : Int32), d + k ≤ 8 → lgN f x k d v = lgN g x k d v := by
  intro k
  induction k with
  | zero => intro d v _; rfl
  | succ k ih => intro d v hd; rw [lgN, lgN, gvs_ag a (by omega)]; exact ih (d + 1) _ (by omega)
theorem dep_ag (a : agD f g) : dep f = dep g := by unfold dep; rw [a 3 (by omega)]
theorem grl_ag (a : agD f g) : grl f = grl g := by unfold grl; rw [a 4 (by omega)]
theorem lgt_ag (a : agD f g) (hf : Wf f) (x : Int32) : lgt f x = lgt g x := by
  unfold lgt
  rw [← dep_ag a]
  exact lgN_ag a x _ 0 0 (by have := Wf_dep hf; omega)
theorem csN_ag (a : agD f g) : ∀ (k d : Nat) (v : Int32), d + k ≤ 8 → csN f k d v = csN g k d v := by
  intro k
  induction k with
  | zero => intro d v _; rfl
  | succ k ih =>
    intro d v hd
    have e : cst f d = cst g d := by unfold cst; rw [a (11 + 6 * d) (by omega)]
    rw [csN, csN, e, a (16 + 6 * d) (by omega)]; exact ih (d + 1) _ (by omega)
theorem cas_ag (a : agD f g) (hf : Wf f) : cas f = cas g := by
  unfold cas
  rw [← dep_ag a]
  exact csN_ag a _ 0 0 (by have := Wf_dep hf; omega)
theorem wrs_ag (a : agD f g) (hf : Wf f) {d : Nat} (hd : d < 8) : wrs f d = wrs g d := by
  unfold wrs
  rw [lgt_ag a hf, a 0 (by omega), a (11 + 6 * d) (by omega), a (12 + 6 * d) (by omega)]
theorem ag1_ag (a : agD f g) (hf : Wf f) {d : Nat} (hd : d < 8) : agD (ag1 f d) (ag1 g d) := by
  intro i hi
  unfold ag1
  rw [a (16 + 6 * d) (by omega), a (15 + 6 * d) (by omega), a (14 + 6 * d) (by omega), wrs_ag a hf hd]
  split
  · unfold upd
    split
    · rfl
    · split
      · rfl
      · exact a i hi
  · exact a i hi
theorem agN_ag : ∀ (k d : Nat) (f g : Nat → Int32), d + k ≤ 8 → agD f g → Wf f → agD (agN k d f) (agN k d g) := by
  intro k
  induction k with
  | zero => intro d f g _ a _; exact a
  | succ k ih => intro d f g hd a hf; exact ih (d + 1) _ _ (by omega) (ag1_ag a hf (by omega)) (ag1_Wf hf (by omega))
theorem stI_ag (a : agD f g) : stI f = stI g := by
  unfold stI
  have h : (g 0).toNatClampNeg % 6 < 6 := Nat.mod_lt _ (by omega)
  rw [a 0 (by omega), a (5 + (g 0).toNatClampNeg % 6) (by omega)]
theorem stn_ag (a : agD f g) (hf : Wf f) (hg : Wf g) : agD (stn f) (stn g) := fun i hi => by rw [stn_at (by omega) (Wf_grl hf).1, stn_at (by omega) (Wf_grl hg).1]; exact a i hi
theorem fee_ag (a : agD f g) (hf : Wf f) : agD (fee f) (fee g) := fun i hi => by
  unfold fee
  rw [cas_ag a hf, a 1 (by omega)]
  unfold upd
  split
  · rfl
  · exact a i hi
theorem GOES_ag (a : agD f g) (hf : Wf f) (hg : Wf g) : agD (GOES f) (GOES g) := fun i hi => by
  have d8 := Wf_dep hf
  have h1 := agN_ag (dep f) 0 _ _ (by omega) (fee_ag (stn_ag a hf hg) (stn_Wf hf)) (fee_Wf (stn_Wf hf))
  unfold GOES dayUp
  rw [← dep_ag a, h1 0 (by omega)]
  unfold upd
  split
  · rfl
  · exact h1 i hi
theorem agN_hi : ∀ (k d : Nat) (f : Nat → Int32), d + k ≤ 8 → ∀ i, (59 ≤ i ∨ i < 14) → agN k d f i = f i := by
  intro k
  induction k with
  | zero => intro d f _ i _; rfl
  | succ k ih => intro d f hd i hi; rw [agN, ih (d + 1) _ (by omega) i hi, ag1_at (by omega) (by omega)]
theorem GOES_hi (hf : Wf f) {i : Nat} (hi : 59 ≤ i) : GOES f i = stn f i := by
  have d8 := Wf_dep hf
  unfold GOES dayUp
  rw [upd_n (by omega), agN_hi _ 0 _ (by omega) i (Or.inl hi)]
  unfold fee
  rw [upd_n (by omega)]
theorem GOES_lo (hf : Wf f) {i : Nat} (h1 : 2 ≤ i) (h2 : i < 14) : GOES f i = f i := by
  have d8 := Wf_dep hf
  unfold GOES dayUp
  rw [upd_n (by omega), agN_hi _ 0 _ (by omega) i (Or.inr h2)]
  unfold fee
  rw [upd_n (by omega), stn_at (by omega) (Wf_grl hf).1]
theorem GO_grl (hf : Wf f) : grl (GOES f) = grl f := by unfold grl; rw [GOES_lo hf (by omega) (by omega)]
theorem GO_dep (hf : Wf f) : dep (GOES f) = dep f := by unfold dep; rw [GOES_lo hf (by omega) (by omega)]
end AGD
/-! a girl's numbers -/
def sG (f : Nat → Int32) : Nat := stI f / 100
def Ln (f : Nat → Int32) : Nat := (lgt f (nI (stI f % 100))).toNatClampNeg
def dN (f : Nat → Int32) (j : Nat) : Nat := (f (59 + 3 * j)).toNatClampNeg
def hN (f : Nat → Int32) (j : Nat) : Nat := (f (60 + 3 * j)).toNatClampNeg
def mN (f : Nat → Int32) (j : Nat) : Nat := (f (61 + 3 * j)).toNatClampNeg
section GRN
variable {f : Nat → Int32}
theorem cl_bd {x : Int32} {n : Nat} (h : 0 ≤ x.toInt ∧ x.toInt ≤ n) : x = nI x.toNatClampNeg ∧ x.toNatClampNeg ≤ n := ⟨nI_of_bd h.1 h.2, by show x.toInt.toNat ≤ n; omega⟩
theorem dN_e (hf : Wf f) {j : Nat} (hj : j < 6) : f (59 + 3 * j) = nI (dN f j) ∧ dN f j ≤ 99 := cl_bd (n := 99) (Wf_gr hf hj (e := 0) (by omega))
theorem hN_e (hf : Wf f) {j : Nat} (hj : j < 6) : f (60 + 3 * j) = nI (hN f j) ∧ hN f j ≤ 100 := by
  have h := Wf_gr hf hj (e := 1) (by omega)
  rw [show 59 + 3 * j + 1 = 60 + 3 * j by omega] at h
  exact cl_bd (n := 100) h
theorem mN_e (hf : Wf f) {j : Nat} (hj : j < 6) : f (61 + 3 * j) = nI (mN f j) ∧ mN f j ≤ 9999 := by
  have h := Wf_gr hf hj (e := 2) (by omega)
  rw [show 59 + 3 * j + 2 = 61 + 3 * j by omega] at h
  exact cl_bd (n := 9999) h
theorem Ln_e (hf : Wf f) : lgt f (nI (stI f % 100)) = nI (Ln f) ∧ Ln f ≤ 1200 := by
  obtain ⟨-, -, e3, -⟩ := stI_n hf
  exact cl_bd (n := 1200) (lgt_bd hf (hh := stI f % 100) (by omega))
theorem hld_nn {a b : Nat} (ha : a < 2 ^ 31) (hb : b < 2 ^ 31) {x y : Int32} (hx : x = nI a) (hy : y = nI b) : hld x 0 y = nI (min a b) := by
  subst hx; subst hy
  unfold hld
  rw [if_neg (nI_pos ha)]
  by_cases c : b < a
  · rw [if_pos (nI_lt c ha), Nat.min_eq_right (by omega)]
  · rw [if_neg (nI_nlt (by omega) hb), Nat.min_eq_left (by omega)]
theorem stn_girl (hf : Wf f) {j : Nat} (hj : j < 6) : stn f (59 + 3 * j) = (if sG f = j ∧ j < grl f then (if min (dN f j + Ln f) 99 < hN f j then nI (min (dN f j + Ln f) 99) else 0) else nI (dN f j)) ∧ stn f (60 + 3 * j) = nI (hN f j) ∧ stn f (61 + 3 * j) = (if sG f = j ∧ j < grl f then (if min (dN f j + Ln f) 99 < hN f j then nI (mN f j) else nI (min (mN f j + 1) 9999)) else nI (mN f j)) := by
  obtain ⟨ed, bd⟩ := dN_e hf hj
  obtain ⟨eh, bh⟩ := hN_e hf hj
  obtain ⟨em, bm⟩ := mN_e hf hj
  obtain ⟨el, bl⟩ := Ln_e hf
  unfold stn
  by_cases c0 : stI f / 100 < grl f
  · rw [if_pos c0]
    by_cases c1 : sG f = j
    · have c1' : stI f / 100 = j := c1
      rw [c1'] at c0 ⊢
      have cc : sG f = j ∧ j < grl f := ⟨c1, c0⟩
      rw [if_pos cc, if_pos cc]
      unfold stG
      have e1 : hld (f (59 + 3 * j) + lgt f (nI (stI f % 100))) 0 99 = nI (min (dN f j + Ln f) 99) := by rw [ed, el, nI_add]; exact hld_nn (b := 99) (by omega) (by omega) rfl rfl
      have e2 : hld (f (61 + 3 * j) + 0) 0 9999 = nI (mN f j) := by rw [em, Int32.add_zero, hld_nn (a := mN f j) (b := 9999) (y := 9999) (by omega) (by omega) rfl rfl, Nat.min_eq_left bm]
      have e3 : hld (f (61 + 3 * j) + 1) 0 9999 = nI (min (mN f j + 1) 9999) := by rw [em, nI_1]; exact hld_nn (b := 9999) (by omega) (by omega) rfl rfl
      rw [e1, e2, e3, eh]
      by_cases c2 : min (dN f j + Ln f) 99 < hN f j
      · rw [if_pos (nI_lt c2 (by omega)), if_pos c2, if_pos c2]
        refine ⟨?_, ?_, upd_s⟩
        · rw [upd_n (by omega), upd_s]
        · rw [upd_n (by omega), upd_n (by omega)]; exact eh
      · rw [if_neg (nI_nlt (by omega) (by omega)), if_neg c2, if_neg c2]
        refine ⟨?_, ?_, upd_s⟩
        · rw [upd_n (by omega), upd_s]
        · rw [upd_n (by omega), upd_n (by omega)]; exact eh
    · have c1' : ¬ stI f / 100 = j := c1
      have cc : ¬ (sG f = j ∧ j < grl f) := fun z => c1 z.1
      rw [if_neg cc, if_neg cc, ← ed, ← eh, ← em]
      unfold stG
      split
      · exact ⟨by rw [upd_n (by omega), upd_n (by omega)], by rw [upd_n (by omega), upd_n (by omega)], by rw [upd_n (by omega), upd_n (by omega)]⟩
      · exact ⟨by rw [upd_n (by omega), upd_n (by omega)], by rw [upd_n (by omega), upd_n (by omega)], by rw [upd_n (by omega), upd_n (by omega)]⟩
  · have cc : ¬ (sG f = j ∧ j < grl f) := fun z => c0 (by have h1 : stI f / 100 = j := z.1; rw [h1]; exact z.2)
    rw [if_neg c0, if_neg cc, if_neg cc]
    exact ⟨ed, eh, em⟩
theorem GO_d (hf : Wf f) {j : Nat} (hj : j < 6) : dN (GOES f) j = if sG f = j ∧ j < grl f then (if min (dN f j + Ln f) 99 < hN f j then min (dN f j + Ln f) 99 else 0) else dN f j := by
  have b := (dN_e hf hj).2
  conv => lhs; unfold dN
  rw [GOES_hi hf (by omega), (stn_girl hf hj).1]
  split
  · split
    · rw [nI_clamp (by omega)]
    · rfl
  · rw [nI_clamp (by omega)]
theorem GO_h (hf : Wf f) {j : Nat} (hj : j < 6) : hN (GOES f) j = hN f j := by
  have b := (hN_e hf hj).2
  conv => lhs; unfold hN
  rw [GOES_hi hf (by omega), (stn_girl hf hj).2.1, nI_clamp (by omega)]
theorem GO_m (hf : Wf f) {j : Nat} (hj : j < 6) : mN (GOES f) j = if sG f = j ∧ j < grl f then (if min (dN f j + Ln f) 99 < hN f j then mN f j else min (mN f j + 1) 9999) else mN f j := by
  have b := (mN_e hf hj).2
  conv => lhs; unfold mN
  rw [GOES_hi hf (by omega), (stn_girl hf hj).2.2]
  split
  · split
    · rw [nI_clamp (by omega)]
    · rw [nI_clamp (by omega)]
  · rw [nI_clamp (by omega)]
end GRN
theorem sG_ag {f g : Nat → Int32} (a : agD f g) : sG f = sG g := by unfold sG; rw [stI_ag a]
theorem Ln_ag {f g : Nat → Int32} (a : agD f g) (hf : Wf f) : Ln f = Ln g := by unfold Ln; rw [stI_ag a, lgt_ag a hf]
/-! with another hope -/
def hop (j H : Nat) : Nat → (Nat → Int32) → Nat → Nat → Nat
  | 0, _, _, m => m
  | n + 1, f, d, m => if sG f = j then (if min (d + Ln f) 99 < H then hop j H n (GOES f) (min (d + Ln f) 99) m else hop j H n (GOES f) 0 (min (m + 1) 9999)) else hop j H n (GOES f) d m
def dls (j : Nat) : Nat → (Nat → Int32) → Nat → Nat → Nat
  | 0, _, _, l => l
  | n + 1, f, d, l => if sG f = j then dls j n (GOES f) (min (d + Ln f) 99) (min (d + Ln f) 99) else dls j n (GOES f) d l
theorem hop_e {j : Nat} (hj : j < 6) : ∀ (n : Nat) (f : Nat → Int32), Wf f → j < grl f → mN (GON n f) j = hop j (hN f j) n f (dN f j) (mN f j) := by
  intro n
  induction n with
  | zero => intro f _ _; rfl
  | succ n ih =>
    intro f hf hg
    rw [GON, ih _ (GOES_Wf hf) (by rw [GO_grl hf]; exact hg), GO_h hf hj, GO_d hf hj, GO_m hf hj, hop]
    by_cases c : sG f = j
    · have cc : sG f = j ∧ j < grl f := ⟨c, hg⟩
      rw [if_pos cc, if_pos cc, if_pos c]
      by_cases c2 : min (dN f j + Ln f) 99 < hN f j
      · rw [if_pos c2, if_pos c2, if_pos c2]
      · rw [if_neg c2, if_neg c2, if_neg c2]
    · have cc : ¬ (sG f = j ∧ j < grl f) := fun z => c z.1
      rw [if_neg cc, if_neg cc, if_neg c]
theorem hop_ag (j H : Nat) : ∀ (n : Nat) (f g : Nat → Int32) (d m : Nat), agD f g → Wf f → Wf g → hop j H n f d m = hop j H n g d m := by
  intro n
  induction n with
  | zero => intro f g d m _ _ _; rfl
  | succ n ih =>
    intro f g d m a hf hg
    have i := fun d m => ih _ _ d m (GOES_ag a hf hg) (GOES_Wf hf) (GOES_Wf hg)
    rw [hop, hop, sG_ag a, Ln_ag a hf, i, i, i]
theorem dls_ag (j : Nat) : ∀ (n : Nat) (f g : Nat → Int32) (d l : Nat), agD f g → Wf f → Wf g → dls j n f d l = dls j n g d l := by
  intro n
  induction n with
  | zero => intro f g d m _ _ _; rfl
  | succ n ih =>
    intro f g d m a hf hg
    have i := fun d m => ih _ _ d m (GOES_ag a hf hg) (GOES_Wf hf) (GOES_Wf hg)
    rw [dls, dls, sG_ag a, Ln_ag a hf, i, i]
theorem hop_up (j H : Nat) : ∀ (n : Nat) (f : Nat → Int32) (d m : Nat), m ≤ 9999 → m ≤ hop j H n f d m ∧ hop j H n f d m ≤ 9999 := by
  intro n
  induction n with
  | zero => intro f d m hm; exact ⟨Nat.le_refl _, hm⟩
  | succ n ih =>
    intro f d m hm
    rw [hop]
    split
    · split
      · exact ih _ _ _ hm
      · have h := ih (GOES f) 0 (min (m + 1) 9999) (by omega)
        omega
    · exact ih _ _ _ hm
theorem dls_up (j : Nat) : ∀ (n : Nat) (f : Nat → Int32) (d l : Nat), l ≤ d → d ≤ 99 → l ≤ dls j n f d l ∧ dls j n f d l ≤ 99 := by
  intro n
  induction n with
  | zero => intro f d l h1 h2; exact ⟨Nat.le_refl _, by show l ≤ 99; omega⟩
  | succ n ih =>
    intro f d l h1 h2
    rw [dls]
    split
    · have h := ih (GOES f) (min (d + Ln f) 99) (min (d + Ln f) 99) (by omega) (by omega)
      omega
    · exact ih _ _ _ h1 h2
theorem hop_dls (j H : Nat) : ∀ (n : Nat) (f : Nat → Int32) (d l m : Nat), l ≤ d → d ≤ 99 → l < H → m ≤ 9999 → (m < hop j H n f d m ↔ H ≤ dls j n f d l ∧ m < 9999) := by
  intro n
  induction n with
  | zero => intro f d l m h1 h2 h3 h4; rw [hop, dls]; omega
  | succ n ih =>
    intro f d l m h1 h2 h3 h4
    rw [hop, dls]
    by_cases c : sG f = j
    · rw [if_pos c, if_pos c]
      by_cases c2 : min (d + Ln f) 99 < H
      · rw [if_pos c2]
        exact ih _ _ _ _ (Nat.le_refl _) (by omega) c2 h4
      · rw [if_neg c2]
        have u1 := hop_up j H n (GOES f) 0 (min (m + 1) 9999) (by omega)
        have u2 := dls_up j n (GOES f) (min (d + Ln f) 99) (min (d + Ln f) 99) (Nat.le_refl _) (by omega)
        constructor
        · intro h; exact ⟨by omega, by omega⟩
        · rintro ⟨-, h⟩; omega
    · rw [if_neg c, if_neg c]
      exact ih _ _ _ _ h1 h2 h3 h4
