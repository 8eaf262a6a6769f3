/-! THE ROW: what the numbers of a room say (both sides speak of these) -/
def eve (f : Nat → Int32) (d : Nat) : Int32 := hld (20 + f (14 + 6 * d) / 10) 0 50
def shn (f : Nat → Int32) (d : Nat) : Int32 := if f (11 + 6 * d) = 1 then eve f d else if f (11 + 6 * d) = 3 then eve f d / 2 else if f (11 + 6 * d) = 4 then eve f d / 2 + f (15 + 6 * d) else if f (11 + 6 * d) = 6 then 3 else 0
def rch (f : Nat → Int32) (d : Nat) : Int32 := if f (11 + 6 * d) = 1 then 3 else if f (11 + 6 * d) = 3 then 5 else if f (11 + 6 * d) = 4 then 5 + f (15 + 6 * d) / 20 else 0
def off (f : Nat → Int32) (d : Nat) (x : Int32) : Int32 := if x ≤ f (12 + 6 * d) then f (12 + 6 * d) - x else x - f (12 + 6 * d)
def gvs (f : Nat → Int32) (d : Nat) (x : Int32) : Int32 := if f (16 + 6 * d) = 0 ∧ off f d x ≤ rch f d ∧ 0 < shn f d - 3 * off f d x then shn f d - 3 * off f d x else 0
/-- the light of the deposits d, d + 1 .. (k of them), onto a sum -/
def lgN (f : Nat → Int32) (x : Int32) : Nat → Nat → Int32 → Int32
  | 0, _, a => a
  | k + 1, d, a => lgN f x k (d + 1) (a + gvs f d x)
def dep (f : Nat → Int32) : Nat := (f 3).toNatClampNeg
def grl (f : Nat → Int32) : Nat := (f 4).toNatClampNeg
def lgt (f : Nat → Int32) (x : Int32) : Int32 := lgN f x (dep f) 0 0
def wrs (f : Nat → Int32) (d : Nat) : Int32 := if f (11 + 6 * d) = 1 then 0 else if f (11 + 6 * d) = 2 then 0 else if f (11 + 6 * d) = 3 then jrem (f 0) 2 else if f (11 + 6 * d) = 4 then jrem (f 0) 2 + 1 else if f (11 + 6 * d) = 5 then (if lgt f (f (12 + 6 * d)) ≤ 0 then 1 else 2) else if f (11 + 6 * d) = 6 then 0 else 1
def cst (f : Nat → Int32) (d : Nat) : Int32 := if f (11 + 6 * d) = 1 then 0 else if f (11 + 6 * d) = 2 then 1 else if f (11 + 6 * d) = 3 then 0 else if f (11 + 6 * d) = 4 then 0 else if f (11 + 6 * d) = 5 then 1 else if f (11 + 6 * d) = 6 then 3 else 2
def csN (f : Nat → Int32) : Nat → Nat → Int32 → Int32
  | 0, _, a => a
  | k + 1, d, a => csN f k (d + 1) (a + (if f (16 + 6 * d) = 0 then cst f d else 0))
def cas (f : Nat → Int32) : Int32 := csN f (dep f) 0 0
def smN (f : Nat → Int32) (e : Nat) : Nat → Nat → Int32 → Int32
  | 0, _, a => a
  | k + 1, d, a => smN f e k (d + 1) (a + f (59 + 3 * d + e))
def sms (f : Nat → Int32) (e : Nat) : Int32 := smN f e (grl f) 0 0
/-- the greatest number in each place of the row -/
def hiB (i : Nat) : Int := ([99999, 99999, 0, 8, 6, 515, 515, 515, 515, 515, 515, 6, 15, 99, 9999, 99, 1, 6, 15, 99, 9999, 99, 1, 6, 15, 99, 9999, 99, 1, 6, 15, 99, 9999, 99, 1, 6, 15, 99, 9999, 99, 1, 6, 15, 99, 9999, 99, 1, 6, 15, 99, 9999, 99, 1, 6, 15, 99, 9999, 99, 1, 99, 100, 9999, 99, 100, 9999, 99, 100, 9999, 99, 100, 9999, 99, 100, 9999, 99, 100, 9999] : List Int).getD i 0
def Wf (f : Nat → Int32) : Prop := (∀ i, i < 77 → i ≠ 2 → 0 ≤ (f i).toInt ∧ (f i).toInt ≤ hiB i) ∧ (∀ i, i < 6 → (f (5 + i)).toInt % 100 ≤ 15) ∧ (∀ i, i < 10 → -1 ≤ (f (77 + i)).toInt ∧ (f (77 + i)).toInt < (f 3).toInt)
theorem hiB_le : ∀ i, i < 77 → hiB i ≤ 99999 := by decide
def itB (e : Nat) : Int := ([6, 15, 99, 9999, 99, 1] : List Int).getD e 0
def grB (e : Nat) : Int := ([99, 100, 9999] : List Int).getD e 0
theorem hiB_it : ∀ d, d < 8 → ∀ e, e < 6 → hiB (11 + 6 * d + e) = itB e := by decide
theorem hiB_gr : ∀ g, g < 6 → ∀ e, e < 3 → hiB (59 + 3 * g + e) = grB e := by decide
theorem hiB_li : ∀ i, i < 6 → hiB (5 + i) = 515 := by decide
theorem nI_of_bd {x : Int32} {n : Int} (h : 0 ≤ x.toInt) (_ : x.toInt ≤ n) : x = nI x.toNatClampNeg := by
  apply Int32.toInt_inj.mp
  have h1 : x.toNatClampNeg = x.toInt.toNat := rfl
  have h2 := Int32.toInt_lt x
  rw [nI_toInt (by omega), h1]
  omega
/-- a number of the row as a Nat -/
theorem Wf_nat {f : Nat → Int32} (h : Wf f) {i : Nat} (hi : i < 77) (h2 : i ≠ 2) {B : Int} (hB : hiB i = B) : ∃ n : Nat, f i = nI n ∧ (n : Int) ≤ B := by
  obtain ⟨h3, h4⟩ := h.1 i hi h2
  refine ⟨(f i).toNatClampNeg, nI_of_bd h3 h4, ?_⟩
  have h1 : (f i).toNatClampNeg = (f i).toInt.toNat := rfl
  rw [h1, ← hB]; omega
theorem Wf_it {f : Nat → Int32} (h : Wf f) {d e : Nat} (hd : d < 8) (he : e < 6) : 0 ≤ (f (11 + 6 * d + e)).toInt ∧ (f (11 + 6 * d + e)).toInt ≤ itB e := by
  have := h.1 (11 + 6 * d + e) (by omega) (by omega)
  rwa [hiB_it d hd e he] at this
theorem Wf_gr {f : Nat → Int32} (h : Wf f) {g e : Nat} (hg : g < 6) (he : e < 3) : 0 ≤ (f (59 + 3 * g + e)).toInt ∧ (f (59 + 3 * g + e)).toInt ≤ grB e := by
  have := h.1 (59 + 3 * g + e) (by omega) (by omega)
  rwa [hiB_gr g hg e he] at this
theorem Wf_dep {f : Nat → Int32} (h : Wf f) : dep f ≤ 8 ∧ f 3 = nI (dep f) := by
  have h1 := h.1 3 (by omega) (by omega)
  refine ⟨?_, nI_of_bd h1.1 h1.2⟩
  show (f 3).toInt.toNat ≤ 8
  have h2 : hiB 3 = 8 := rfl
  rw [h2] at h1; omega
theorem Wf_grl {f : Nat → Int32} (h : Wf f) : grl f ≤ 6 ∧ f 4 = nI (grl f) := by
  have h1 := h.1 4 (by omega) (by omega)
  refine ⟨?_, nI_of_bd h1.1 h1.2⟩
  show (f 4).toInt.toNat ≤ 6
  have h2 : hiB 4 = 6 := rfl
  rw [h2] at h1; omega
theorem Wf_upd {f : Nat → Int32} (h : Wf f) {i : Nat} {v : Int32} (h3 : i ≠ 3) (hi : i < 77) (hv : i ≠ 2 → 0 ≤ v.toInt ∧ v.toInt ≤ hiB i) (hl : 5 ≤ i → i < 11 → v.toInt % 100 ≤ 15) : Wf (upd f i v) := by
  refine ⟨fun j hj h2 => ?_, fun j hj => ?_, fun j hj => ?_⟩
  · unfold upd; split
    · rename_i e; subst e; exact hv h2
    · exact h.1 j hj h2
  · unfold upd; split
    · rename_i e; exact hl (by omega) (by omega)
    · exact h.2.1 j hj
  · have e1 : upd f i v (77 + j) = f (77 + j) := if_neg (by omega)
    have e2 : upd f i v 3 = f 3 := if_neg (Ne.symm h3)
    rw [e1, e2]; exact h.2.2 j hj
section ROM
variable {w : A_W} {h : Nat → Nat → Int32} {s : Nat → Int32}
theorem M_shines (hM : MM w h s) {d : Nat} (hd : d < 8) {x : Int32} (hx : x = nI d) : F_M_shines 49 x w = some (shn (h 0) d, w) := by
  unfold F_M_shines F_M_shines_0 F_M_shines_83
  simp only [hM.ob_, Option.bind_some, M_it hM hd (e := 3) (y := 3) (by omega) hx rfl, M_held, M_it hM hd (e := 0) (y := 0) (by omega) hx rfl, M_it hM hd (e := 4) (y := 4) (by omega) hx rfl]
  rw [show 11 + 6 * d + 3 = 14 + 6 * d by omega, show 11 + 6 * d + 4 = 15 + 6 * d by omega, Nat.add_zero]
  unfold shn eve
  split
  · rfl
  · split
    · rename_i c1 c2; rw [if_neg (by rw [c2]; decide), if_neg (by rw [c2]; decide), if_neg (by rw [c2]; decide)]
    · split
      · rfl
      · split
        · rfl
        · split
          · rename_i c2; rw [if_neg (by rw [c2]; decide)]
          · split <;> rfl
theorem M_reaches (hM : MM w h s) {d : Nat} (hd : d < 8) {x : Int32} (hx : x = nI d) : F_M_reaches 49 x w = some (rch (h 0) d, w) := by
  unfold F_M_reaches F_M_reaches_0 F_M_reaches_52
  simp only [hM.ob_, Option.bind_some, M_it hM hd (e := 0) (y := 0) (by omega) hx rfl, M_it hM hd (e := 4) (y := 4) (by omega) hx rfl]
  rw [show 11 + 6 * d + 4 = 15 + 6 * d by omega, Nat.add_zero]
  unfold rch
  split
  · rfl
  · split
    · rename_i c1 c2; rw [if_neg (by rw [c2]; decide), if_neg (by rw [c2]; decide)]
    · split
      · rfl
      · split <;> rfl
theorem M_costs (hM : MM w h s) {d : Nat} (hd : d < 8) {x : Int32} (hx : x = nI d) : F_M_costs 49 x w = some (cst (h 0) d, w) := by
  unfold F_M_costs F_M_costs_0 F_M_costs_44 F_M_costs_46
  simp only [hM.ob_, Option.bind_some, M_it hM hd (e := 0) (y := 0) (by omega) hx rfl]
  rw [Nat.add_zero]
  unfold cst
  repeat' split
  all_goals rfl
theorem M_lightAt_loop (hM : MM w h s) (hf : Wf (h 0)) (y : Int32) : ∀ (n k d : Nat) (a : Int32) (x : Int32), x = nI d → d + k = dep (h 0) → k < n → F_M_lightAt_4 n 49 y a x w = some (lgN (h 0) y k d a, w) := by
  intro n
  induction n with
  | zero => intro k d a x _ _ hk; exact absurd hk (by omega)
  | succ n ih =>
    intro k d a x hx hk hn
    obtain ⟨h8, h3⟩ := (Wf_dep hf)
    rw [F_M_lightAt_4]
    simp only [hM.gr0, Option.bind_some, hM.rd0 (i := 3) (x := 3) (by omega) rfl]
    rw [h3, hx]
    cases k with
    | zero =>
      rw [if_pos (nI_le (by omega) (by omega))]
      rfl
    | succ k =>
      rw [if_neg (fun z => by rw [nI_leI (by omega) (by omega)] at z; omega)]
      have hd : d < 8 := by omega
      simp only [hM.ob_, Option.bind_some, M_it hM hd (e := 1) (y := 1) (by omega) rfl rfl]
      rw [show 11 + 6 * d + 1 = 12 + 6 * d by omega]
      have key : ∀ z : Int32, z = off (h 0) d y → F_M_lightAt_43 (F_M_lightAt_4 n) 49 y a (nI d) z w = some (lgN (h 0) y (k + 1) d a, w) := by
        intro z hz
        subst hz
        unfold F_M_lightAt_43 F_M_lightAt_86 F_M_lightAt_87
        simp only [hM.ob_, Option.bind_some, M_shines hM hd rfl, M_isHere hM hd rfl, M_reaches hM hd rfl, bI_0]
        have nx : ∀ v : Int32, v = gvs (h 0) d y → F_M_lightAt_4 n 49 y (a + v) (nI d + 1) w = some (lgN (h 0) y (k + 1) d a, w) := by
          intro v hv
          rw [ih k (d + 1) (a + v) _ (nI_1 d) (by omega) (by omega), hv]
          rfl
        by_cases c1 : h 0 (16 + 6 * d) = 0
        · rw [if_neg (fun z => z c1)]
          by_cases c2 : rch (h 0) d < off (h 0) d y
          · rw [if_pos c2]
            exact nx 0 (by unfold gvs; rw [if_neg (fun z => Int32.not_le.mpr c2 z.2.1)])
          · rw [if_neg c2]
            by_cases c3 : shn (h 0) d - 3 * off (h 0) d y ≤ 0
            · rw [if_pos c3]
              exact nx 0 (by unfold gvs; rw [if_neg (fun z => Int32.not_lt.mpr c3 z.2.2)])
            · rw [if_neg c3]
              exact nx _ (by unfold gvs; rw [if_pos ⟨c1, Int32.not_lt.mp c2, Int32.not_le.mp c3⟩])
        · rw [if_pos c1]
          exact nx 0 (by unfold gvs; rw [if_neg (fun z => c1 z.1)])
      split
      · rename_i c; exact key _ (by unfold off; rw [if_pos c])
      · rename_i c; exact key _ (by unfold off; rw [if_neg c])
theorem M_lightAt (hM : MM w h s) (hf : Wf (h 0)) (y : Int32) : F_M_lightAt 49 y w = some (lgt (h 0) y, w) := by
  unfold F_M_lightAt F_M_lightAt_0 lgt
  have := (Wf_dep hf)
  exact M_lightAt_loop hM hf y FU (dep (h 0)) 0 0 0 rfl (by omega) (by unfold FU; omega)
theorem M_wears (hM : MM w h s) (hf : Wf (h 0)) {d : Nat} (hd : d < 8) {x : Int32} (hx : x = nI d) : F_M_wears 49 x w = some (wrs (h 0) d, w) := by
  unfold F_M_wears F_M_wears_0 F_M_wears_52 F_M_wears_78
  simp only [hM.gr0, hM.rd0 (i := 0) (x := 0) (by omega) rfl, hM.ob_, Option.bind_some, M_it hM hd (e := 0) (y := 0) (by omega) hx rfl, M_it hM hd (e := 1) (y := 1) (by omega) hx rfl, M_lightAt hM hf]
  rw [Nat.add_zero, show 11 + 6 * d + 1 = 12 + 6 * d by omega]
  unfold wrs
  repeat' split
  all_goals rfl
theorem M_allCost_loop (hM : MM w h s) (hf : Wf (h 0)) : ∀ (n k d : Nat) (a : Int32) (x : Int32), x = nI d → d + k = dep (h 0) → k < n → F_M_allCost_4 n 49 a x w = some (csN (h 0) k d a, w) := by
  intro n
  induction n with
  | zero => intro k d a x _ _ hk; exact absurd hk (by omega)
  | succ n ih =>
    intro k d a x hx hk hn
    obtain ⟨h8, h3⟩ := Wf_dep hf
    rw [F_M_allCost_4]
    simp only [hM.gr0, Option.bind_some, hM.rd0 (i := 3) (x := 3) (by omega) rfl]
    rw [h3, hx]
    cases k with
    | zero =>
      rw [if_pos (nI_le (by omega) (by omega))]
      rfl
    | succ k =>
      rw [if_neg (fun z => by rw [nI_leI (by omega) (by omega)] at z; omega)]
      have hd : d < 8 := by omega
      unfold F_M_allCost_32
      simp only [hM.ob_, Option.bind_some, M_isHere hM hd rfl, M_costs hM hd rfl, bI_0]
      by_cases c1 : h 0 (16 + 6 * d) = 0
      · rw [if_neg (fun z => z c1), ih k (d + 1) _ _ (nI_1 d) (by omega) (by omega), csN, if_pos c1]
      · rw [if_pos c1, ih k (d + 1) _ _ (nI_1 d) (by omega) (by omega), csN, if_neg c1]
theorem M_allCost (hM : MM w h s) (hf : Wf (h 0)) : F_M_allCost 49 w = some (cas (h 0), w) := by
  unfold F_M_allCost F_M_allCost_0 cas
  have := Wf_dep hf
  exact M_allCost_loop hM hf FU (dep (h 0)) 0 0 0 rfl (by omega) (by unfold FU; omega)
end ROM
