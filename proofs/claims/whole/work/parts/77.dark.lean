/-! WHAT IS OUT MAKES IT DARKER -/
def oSk (f : Nat → Int32) (S k : Nat) : Nat → Int32 := fun i => if 16 ≤ i ∧ (i - 16) % 6 = 0 ∧ (i - 16) / 6 < k ∧ S.testBit ((i - 16) / 6) = true then 1 else f i
def oS (f : Nat → Int32) (S : Nat) : Nat → Int32 := oSk f S (dep f)
theorem oSk_0 (f : Nat → Int32) (S : Nat) : oSk f S 0 = f := by funext i; unfold oSk; rw [if_neg (fun z => by omega)]
theorem oSk_at (f : Nat → Int32) (S : Nat) {k d : Nat} (hd : d < k) : oSk f S k (16 + 6 * d) = if S.testBit d = true then 1 else f (16 + 6 * d) := by
  unfold oSk
  have e1 : (16 + 6 * d - 16) / 6 = d := by omega
  rw [e1]
  by_cases b : S.testBit d = true
  · rw [if_pos ⟨by omega, by omega, hd, b⟩, if_pos b]
  · rw [if_neg (fun z => b z.2.2.2), if_neg b]
theorem oSk_ne (f : Nat → Int32) (S : Nat) {k i : Nat} (h : ∀ d, d < k → i ≠ 16 + 6 * d) : oSk f S k i = f i := by
  unfold oSk
  rw [if_neg]
  rintro ⟨h1, h2, h3, -⟩
  exact h _ h3 (by omega)
theorem oSk_s (f : Nat → Int32) (S k : Nat) : oSk f S (k + 1) = if S.testBit k = true then upd (oSk f S k) (16 + 6 * k) 1 else oSk f S k := by
  funext i
  by_cases e : i = 16 + 6 * k
  · subst e
    rw [oSk_at f S (by omega)]
    by_cases b : S.testBit k = true
    · rw [if_pos b, if_pos b, upd_s]
    · rw [if_neg b, if_neg b, oSk_ne f S (fun d hd => by omega)]
  · have e2 : oSk f S (k + 1) i = oSk f S k i := by
      by_cases c : ∃ d, d < k ∧ i = 16 + 6 * d
      · obtain ⟨d, hd, rfl⟩ := c
        rw [oSk_at f S (by omega), oSk_at f S hd]
      · rw [oSk_ne f S (fun d hd z => c ⟨d, by have : d ≠ k := fun y => e (by rw [z, y]); omega, z⟩), oSk_ne f S (fun d hd z => c ⟨d, hd, z⟩)]
    rw [e2]
    split
    · rw [upd_n e]
    · rfl
theorem oSk_Wf {f : Nat → Int32} (hf : Wf f) (S : Nat) : ∀ k, k ≤ 8 → Wf (oSk f S k) := by
  intro k
  induction k with
  | zero => intro _; rw [oSk_0]; exact hf
  | succ k ih =>
    intro hk
    rw [oSk_s]
    split
    · have h1 := Wf_item (ih (by omega)) (d := k) (e := 5) (v := 1) (by omega) (by omega) (by decide) (by decide)
      rw [show 11 + 6 * k + 5 = 16 + 6 * k by omega] at h1
      exact h1
    · exact ih (by omega)
theorem oS_Wf {f : Nat → Int32} (hf : Wf f) (S : Nat) : Wf (oS f S) := oSk_Wf hf S _ (Wf_dep hf).1
theorem oS_hi (f : Nat → Int32) (hf : Wf f) (S : Nat) {i : Nat} (hi : i < 16 ∨ 59 ≤ i) : oS f S i = f i := oSk_ne f S (fun d hd => by have := (Wf_dep hf).1; omega)
def Dk (f g : Nat → Int32) : Prop := (g 0 = f 0 ∧ g 3 = f 3 ∧ g 4 = f 4 ∧ ∀ i, i < 6 → g (5 + i) = f (5 + i)) ∧ (∀ d, d < 8 → g (11 + 6 * d) = f (11 + 6 * d) ∧ g (12 + 6 * d) = f (12 + 6 * d) ∧ (g (16 + 6 * d) = 0 → f (16 + 6 * d) = 0 ∧ g (14 + 6 * d) = f (14 + 6 * d) ∧ (f (11 + 6 * d) = 4 → g (15 + 6 * d) = f (15 + 6 * d)))) ∧ ∀ j, j < 6 → hN g j = hN f j ∧ mN g j = mN f j ∧ (mN f j < 9999 → dN g j ≤ dN f j)
section DRK
variable {f g : Nat → Int32}
theorem shn_Dk {d : Nat} (e1 : g (11 + 6 * d) = f (11 + 6 * d)) (e2 : g (14 + 6 * d) = f (14 + 6 * d)) (e3 : f (11 + 6 * d) = 4 → g (15 + 6 * d) = f (15 + 6 * d)) : shn g d = shn f d ∧ rch g d = rch f d := by
  unfold shn rch eve
  rw [e1, e2]
  by_cases c : f (11 + 6 * d) = 4
  · rw [e3 c]; exact ⟨rfl, rfl⟩
  · rw [if_neg c, if_neg c, if_neg c, if_neg c]; exact ⟨rfl, rfl⟩
theorem gvs_Dk (D : Dk f g) (hf : Wf f) {d hh : Nat} (hd : d < 8) (h2 : hh ≤ 100) : (gvs g d (nI hh)).toInt ≤ (gvs f d (nI hh)).toInt := by
  obtain ⟨e1, e2, e3⟩ := D.2.1 d hd
  by_cases c : g (16 + 6 * d) = 0
  · obtain ⟨c2, c3, c4⟩ := e3 c
    obtain ⟨s1, s2⟩ := shn_Dk e1 c3 c4
    have eo : off g d (nI hh) = off f d (nI hh) := by unfold off; rw [e2]
    have : gvs g d (nI hh) = gvs f d (nI hh) := by unfold gvs; rw [s1, s2, eo, c, c2]
    rw [this]; exact Int.le_refl _
  · have : gvs g d (nI hh) = 0 := by unfold gvs; rw [if_neg (fun z => c z.1)]
    rw [this]
    exact (gvs_bd hf hd h2).1
theorem lgN_Dk (D : Dk f g) (hf : Wf f) (hg : Wf g) {hh : Nat} (h2 : hh ≤ 100) : ∀ (k d : Nat) (a b : Int32), d + k ≤ 8 → 0 ≤ b.toInt → b.toInt ≤ a.toInt → a.toInt ≤ 150 * d → (lgN g (nI hh) k d b).toInt ≤ (lgN f (nI hh) k d a).toInt := by
  intro k
  induction k with
  | zero => intro d a b _ _ h _; exact h
  | succ k ih =>
    intro d a b hd h0 h1 h3
    have g1 := gvs_bd hf (d := d) (by omega) h2
    have g2 := gvs_bd hg (d := d) (by omega) h2
    have g3 := gvs_Dk D hf (d := d) (by omega) h2
    have e1 := nn_add (x := a) (y := gvs f d (nI hh)) (by omega) g1.1 (by omega)
    have e2 := nn_add (x := b) (y := gvs g d (nI hh)) h0 g2.1 (by omega)
    rw [lgN, lgN]
    refine ih (d + 1) _ _ (by omega) (by omega) (by omega) (by omega)
theorem stI_Dk (D : Dk f g) : stI g = stI f := by
  obtain ⟨⟨e0, -, -, el⟩, -⟩ := D
  unfold stI
  rw [e0, el _ (Nat.mod_lt _ (by omega))]
theorem dep_Dk (D : Dk f g) : dep g = dep f := by unfold dep; rw [D.1.2.1]
theorem grl_Dk (D : Dk f g) : grl g = grl f := by unfold grl; rw [D.1.2.2.1]
theorem Ln_Dk (D : Dk f g) (hf : Wf f) (hg : Wf g) : Ln g ≤ Ln f := by
  obtain ⟨-, -, e3, -⟩ := stI_n hf
  obtain ⟨ef, bf⟩ := Ln_e hf
  obtain ⟨eg, bg⟩ := Ln_e hg
  have d8 := Wf_dep hf
  have h := lgN_Dk D hf hg (hh := stI f % 100) (by omega) (dep f) 0 0 0 (by omega) (by decide) (by decide) (by decide)
  have h2 : (lgt g (nI (stI g % 100))).toInt ≤ (lgt f (nI (stI f % 100))).toInt := by
    unfold lgt
    rw [dep_Dk D, stI_Dk D]
    exact h
  rw [ef, eg, nI_toInt (by omega), nI_toInt (by omega)] at h2
  omega
end DRK
/-! a deposit's day -/
theorem agN_kp : ∀ (k d : Nat) (f : Nat → Int32), d + k ≤ 8 → ∀ e, agN k d f (14 + 6 * e) = if (d ≤ e ∧ e < d + k) ∧ f (16 + 6 * e) = 0 then hld (f (14 + 6 * e) + 1) 0 9999 else f (14 + 6 * e) := by
  intro k
  induction k with
  | zero => intro d f _ e; rw [if_neg (fun z => by omega)]; rfl
  | succ k ih =>
    intro d f hd e
    rw [agN, ih (d + 1) _ (by omega) e, ag1_at (i := 16 + 6 * e) (by omega) (by omega)]
    by_cases c : e = d
    · subst c
      rw [if_neg (fun z => by omega)]
      unfold ag1
      by_cases c2 : f (16 + 6 * e) = 0
      · rw [if_pos c2, if_pos ⟨⟨by omega, by omega⟩, c2⟩, upd_s]
      · rw [if_neg c2, if_neg (fun z => c2 z.2)]
    · rw [ag1_at (i := 14 + 6 * e) (by omega) (by omega)]
      by_cases c2 : (d ≤ e ∧ e < d + (k + 1)) ∧ f (16 + 6 * e) = 0
      · rw [if_pos c2, if_pos ⟨⟨by omega, by omega⟩, c2.2⟩]
      · rw [if_neg c2, if_neg (fun z => c2 ⟨⟨by omega, by omega⟩, z.2⟩)]
theorem agN_wn : ∀ (k d : Nat) (f : Nat → Int32), d + k ≤ 8 → ∀ e, f (11 + 6 * e) = 4 → agN k d f (15 + 6 * e) = if (d ≤ e ∧ e < d + k) ∧ f (16 + 6 * e) = 0 then hld (f (15 + 6 * e) + (jrem (f 0) 2 + 1)) 0 99 else f (15 + 6 * e) := by
  intro k
  induction k with
  | zero => intro d f _ e _; rw [if_neg (fun z => by omega)]; rfl
  | succ k ih =>
    intro d f hd e h4
    rw [agN, ih (d + 1) _ (by omega) e (by rw [ag1_at (by omega) (by omega)]; exact h4), ag1_at (i := 16 + 6 * e) (by omega) (by omega), ag1_at (i := 0) (by omega) (by omega)]
    by_cases c : e = d
    · subst c
      rw [if_neg (fun z => by omega)]
      unfold ag1
      by_cases c2 : f (16 + 6 * e) = 0
      · have ew : wrs f e = jrem (f 0) 2 + 1 := by unfold wrs; rw [h4, if_neg (by decide), if_neg (by decide), if_neg (by decide), if_pos rfl]
        rw [if_pos c2, if_pos ⟨⟨by omega, by omega⟩, c2⟩, upd_n (by omega), upd_s, ew]
      · rw [if_neg c2, if_neg (fun z => c2 z.2)]
    · rw [ag1_at (i := 15 + 6 * e) (by omega) (by omega)]
      by_cases c2 : (d ≤ e ∧ e < d + (k + 1)) ∧ f (16 + 6 * e) = 0
      · rw [if_pos c2, if_pos ⟨⟨by omega, by omega⟩, c2.2⟩]
      · rw [if_neg c2, if_neg (fun z => c2 ⟨⟨by omega, by omega⟩, z.2⟩)]
theorem agN_ot : ∀ (k d : Nat) (f : Nat → Int32), d + k ≤ 8 → ∀ i, (∀ e, e < 8 → i ≠ 14 + 6 * e ∧ i ≠ 15 + 6 * e) → agN k d f i = f i := by
  intro k
  induction k with
  | zero => intro d f _ i _; rfl
  | succ k ih => intro d f hd i hi; rw [agN, ih (d + 1) _ (by omega) i hi, ag1_at (hi d (by omega)).2 (hi d (by omega)).1]
section DRG
variable {f g : Nat → Int32}
theorem GOES_ot (hf : Wf f) {i : Nat} (h1 : 2 ≤ i) (h2 : i < 59) (hi : ∀ e, e < 8 → i ≠ 14 + 6 * e ∧ i ≠ 15 + 6 * e) : GOES f i = f i := by
  have d8 := Wf_dep hf
  unfold GOES dayUp
  rw [upd_n (by omega), agN_ot _ 0 _ (by omega) i hi]
  unfold fee
  rw [upd_n (by omega), stn_at (by omega) (Wf_grl hf).1]
theorem GOES_kp (hf : Wf f) {e : Nat} (he : e < 8) : GOES f (14 + 6 * e) = if e < dep f ∧ f (16 + 6 * e) = 0 then hld (f (14 + 6 * e) + 1) 0 9999 else f (14 + 6 * e) := by
  have d8 := Wf_dep hf
  have g6 := (Wf_grl hf).1
  unfold GOES dayUp
  rw [upd_n (by omega), agN_kp _ 0 _ (by omega) e]
  unfold fee
  rw [upd_n (by omega), upd_n (by omega), stn_at (by omega) g6, stn_at (by omega) g6]
  by_cases c : e < dep f ∧ f (16 + 6 * e) = 0
  · rw [if_pos c, if_pos ⟨⟨by omega, by omega⟩, c.2⟩]
  · rw [if_neg c, if_neg (fun z => c ⟨by omega, z.2⟩)]
theorem GOES_wn (hf : Wf f) {e : Nat} (he : e < 8) (h4 : f (11 + 6 * e) = 4) : GOES f (15 + 6 * e) = if e < dep f ∧ f (16 + 6 * e) = 0 then hld (f (15 + 6 * e) + (jrem (f 0) 2 + 1)) 0 99 else f (15 + 6 * e) := by
  have d8 := Wf_dep hf
  have g6 := (Wf_grl hf).1
  unfold GOES dayUp
  rw [upd_n (by omega), agN_wn _ 0 _ (by omega) e (by unfold fee; rw [upd_n (by omega), stn_at (by omega) g6]; exact h4)]
  unfold fee
  rw [upd_n (by omega), upd_n (by omega), upd_n (by omega), stn_at (by omega) g6, stn_at (by omega) g6, stn_at (by omega) g6]
  by_cases c : e < dep f ∧ f (16 + 6 * e) = 0
  · rw [if_pos c, if_pos ⟨⟨by omega, by omega⟩, c.2⟩]
  · rw [if_neg c, if_neg (fun z => c ⟨by omega, z.2⟩)]
theorem GOES_0 (hf : Wf f) : GOES f 0 = hld (f 0 + 1) 0 99999 := by
  have d8 := Wf_dep hf
  unfold GOES dayUp
  rw [upd_s, agN_ot _ 0 _ (by omega) 0 (fun e _ => by omega)]
  unfold fee
  rw [upd_n (by omega), stn_at (by omega) (Wf_grl hf).1]
/-- a quiet day -/
theorem GOES_Dk (D : Dk f g) (hf : Wf f) (hg : Wf g) (hq : ∀ j, j < grl f → mN (GOES f) j = mN f j) : Dk (GOES f) (GOES g) := by
  have g6 := (Wf_grl hf).1
  refine ⟨⟨?_, ?_, ?_, fun i hi => ?_⟩, fun d hd => ?_, fun j hj => ?_⟩
  · rw [GOES_0 hf, GOES_0 hg, D.1.1]
  · rw [GOES_lo hf (by omega) (by omega), GOES_lo hg (by omega) (by omega)]; exact D.1.2.1
  · rw [GOES_lo hf (by omega) (by omega), GOES_lo hg (by omega) (by omega)]; exact D.1.2.2.1
  · rw [GOES_lo hf (by omega) (by omega), GOES_lo hg (by omega) (by omega)]; exact D.1.2.2.2 i hi
  · obtain ⟨e1, e2, e3⟩ := D.2.1 d hd
    have f16 := GOES_ot hf (i := 16 + 6 * d) (by omega) (by omega) (fun e _ => by omega)
    have g16 := GOES_ot hg (i := 16 + 6 * d) (by omega) (by omega) (fun e _ => by omega)
    have f11 := GOES_ot hf (i := 11 + 6 * d) (by omega) (by omega) (fun e _ => by omega)
    have g11 := GOES_ot hg (i := 11 + 6 * d) (by omega) (by omega) (fun e _ => by omega)
    have f12 := GOES_ot hf (i := 12 + 6 * d) (by omega) (by omega) (fun e _ => by omega)
    have g12 := GOES_ot hg (i := 12 + 6 * d) (by omega) (by omega) (fun e _ => by omega)
    rw [f16, g16, f11, g11, f12, g12]
    refine ⟨e1, e2, fun c => ?_⟩
    obtain ⟨c1, c2, c3⟩ := e3 c
    refine ⟨c1, ?_, fun h4 => ?_⟩
    · rw [GOES_kp hf hd, GOES_kp hg hd, dep_Dk D, c2, c, c1]
    · rw [GOES_wn hf hd h4, GOES_wn hg hd (by rw [e1]; exact h4), dep_Dk D, c3 h4, c, c1, D.1.1]
  · obtain ⟨e1, e2, e3⟩ := D.2.2 j hj
    have hL := Ln_Dk D hf hg
    have eG : sG g = sG f := by unfold sG; rw [stI_Dk D]
    have bm := (mN_e hf hj).2
    rw [GO_h hf hj, GO_h hg hj]
    have m1 := GO_m hf hj
    have m2 := GO_m hg hj
    have d1 := GO_d hf hj
    have d2 := GO_d hg hj
    rw [eG, grl_Dk D, e1, e2] at m2
    rw [eG, grl_Dk D, e1] at d2
    by_cases c : sG f = j ∧ j < grl f
    · have hqj := hq j c.2
      rw [if_pos c] at m1 m2 d1 d2
      by_cases c9 : mN f j < 9999
      · have h3 := e3 c9
        have hb : min (dN f j + Ln f) 99 < hN f j := by
          by_cases hb : min (dN f j + Ln f) 99 < hN f j
          · exact hb
          · rw [if_neg hb, Nat.min_eq_left (Nat.succ_le_of_lt c9)] at m1; exact absurd (m1.symm.trans hqj) (Nat.succ_ne_self _)
        have hb2 : min (dN g j + Ln g) 99 < hN f j := by omega
        rw [if_pos hb] at m1 d1
        rw [if_pos hb2] at m2 d2
        rw [m1, m2, d1, d2]
        exact ⟨e1, rfl, fun _ => by omega⟩
      · refine ⟨e1, ?_, fun z => by rw [hqj] at z; omega⟩
        have e9 : mN f j = 9999 := Nat.le_antisymm bm (Nat.not_lt.mp c9)
        rw [hqj, m2, e9]
        split <;> rfl
    · rw [if_neg c] at m1 m2 d1 d2
      rw [m1, m2, d1, d2]
      exact ⟨e1, rfl, e3⟩
end DRG
theorem GO_mle {f : Nat → Int32} (hf : Wf f) {j : Nat} (hj : j < 6) : mN f j ≤ mN (GOES f) j := by
  have bm := (mN_e hf hj).2
  rw [GO_m hf hj]
  split
  · split <;> omega
  · omega
theorem GON_mle {j : Nat} (hj : j < 6) : ∀ (n : Nat) (f : Nat → Int32), Wf f → mN f j ≤ mN (GON n f) j := by
  intro n
  induction n with
  | zero => intro f _; exact Nat.le_refl _
  | succ n ih => intro f hf; exact Nat.le_trans (GO_mle hf hj) (ih _ (GOES_Wf hf))
theorem GON_grl : ∀ (n : Nat) (f : Nat → Int32), Wf f → grl (GON n f) = grl f := by
  intro n
  induction n with
  | zero => intro f _; rfl
  | succ n ih => intro f hf; exact (ih _ (GOES_Wf hf)).trans (GO_grl hf)
theorem quiet_Dk : ∀ (n : Nat) (f g : Nat → Int32), Dk f g → Wf f → Wf g → (∀ j, j < grl f → mN (GON n f) j = mN f j) → ∀ j, j < grl f → mN (GON n g) j = mN f j := by
  intro n
  induction n with
  | zero => intro f g D hf hg _ j hj; exact (D.2.2 j (by have := (Wf_grl hf).1; omega)).2.1
  | succ n ih =>
    intro f g D hf hg hq j hj
    have g6 := (Wf_grl hf).1
    have h1 : ∀ j, j < grl f → mN (GOES f) j = mN f j := fun j hj => by
      have a := GO_mle hf (j := j) (by omega)
      have b := GON_mle (j := j) (by omega) n _ (GOES_Wf hf)
      have c := hq j hj
      rw [GON] at c
      omega
    have h2 := ih (GOES f) (GOES g) (GOES_Dk D hf hg h1) (GOES_Wf hf) (GOES_Wf hg) (fun j hj => by
      rw [GO_grl hf] at hj
      have c := hq j hj
      rw [GON] at c
      rw [c, h1 j hj]) j (by rw [GO_grl hf]; exact hj)
    rw [GON, h2, h1 j hj]
/-! the sum of all met -/
def tm (f : Nat → Int32) : Nat → Nat → Nat
  | 0, _ => 0
  | k + 1, d => mN f d + tm f k (d + 1)
theorem tm_bd {f : Nat → Int32} (hf : Wf f) : ∀ (k d : Nat), d + k ≤ 6 → tm f k d ≤ 9999 * k := by
  intro k
  induction k with
  | zero => intro d _; exact Nat.le_refl _
  | succ k ih =>
    intro d hd
    have a := ih (d + 1) (by omega)
    have b := (mN_e hf (j := d) (by omega)).2
    rw [tm]; omega
theorem smN_tm {f : Nat → Int32} (hf : Wf f) : ∀ (k d a : Nat), d + k ≤ 6 → smN f 2 k d (nI a) = nI (a + tm f k d) := by
  intro k
  induction k with
  | zero => intro d a _; rfl
  | succ k ih =>
    intro d a hd
    rw [smN, tm, show 59 + 3 * d + 2 = 61 + 3 * d by omega, (mN_e hf (j := d) (by omega)).1, nI_add, ih (d + 1) _ (by omega), Nat.add_assoc]
theorem sms_tm {f : Nat → Int32} (hf : Wf f) : sms f 2 = nI (tm f (grl f) 0) := by
  have h := smN_tm hf (grl f) 0 0 (by have := Wf_grl hf; omega)
  rw [Nat.zero_add] at h
  exact h
theorem tm_le {f g : Nat → Int32} : ∀ (k d : Nat), (∀ j, d ≤ j → j < d + k → mN f j ≤ mN g j) → tm f k d ≤ tm g k d ∧ (tm f k d = tm g k d → ∀ j, d ≤ j → j < d + k → mN f j = mN g j) := by
  intro k
  induction k with
  | zero => intro d _; exact ⟨Nat.le_refl _, fun _ j h1 h2 => by omega⟩
  | succ k ih =>
    intro d h
    obtain ⟨a, b⟩ := ih (d + 1) (fun j h1 h2 => h j (by omega) (by omega))
    have c := h d (by omega) (by omega)
    rw [tm, tm]
    refine ⟨by omega, fun e j h1 h2 => ?_⟩
    by_cases ej : j = d
    · subst ej; omega
    · exact b (by omega) j (by omega) (by omega)
theorem tm_cg {f g : Nat → Int32} : ∀ (k d : Nat), (∀ j, d ≤ j → j < d + k → mN f j = mN g j) → tm f k d = tm g k d := by
  intro k
  induction k with
  | zero => intro d _; rfl
  | succ k ih => intro d h; rw [tm, tm, h d (by omega) (by omega), ih (d + 1) (fun j h1 h2 => h j (by omega) (by omega))]
theorem GO_tm {f : Nat → Int32} (hf : Wf f) : tm f (grl f) 0 ≤ tm (GOES f) (grl f) 0 := (tm_le (grl f) 0 (fun j _ h => GO_mle hf (by have := (Wf_grl hf).1; omega))).1
theorem GON_tm {f : Nat → Int32} (hf : Wf f) (n : Nat) : tm f (grl f) 0 ≤ tm (GON n f) (grl f) 0 ∧ (tm f (grl f) 0 = tm (GON n f) (grl f) 0 → ∀ j, j < grl f → mN f j = mN (GON n f) j) := by
  have h := tm_le (f := f) (g := GON n f) (grl f) 0 (fun j _ h => GON_mle (by have := (Wf_grl hf).1; omega) n f hf)
  exact ⟨h.1, fun e j hj => h.2 e j (by omega) (by omega)⟩
/-! nobody is met with a set out -/
def nB (n : Nat) (f : Nat → Int32) (S : Nat) : Bool := decide (tm (GON n (oS f S)) (grl f) 0 = tm f (grl f) 0)
theorem oS_mN {f : Nat → Int32} (hf : Wf f) (S j : Nat) : mN (oS f S) j = mN f j ∧ dN (oS f S) j = dN f j ∧ hN (oS f S) j = hN f j := by
  unfold mN dN hN
  rw [oS_hi f hf S (by omega), oS_hi f hf S (by omega), oS_hi f hf S (by omega)]
  exact ⟨rfl, rfl, rfl⟩
theorem oS_grl {f : Nat → Int32} (hf : Wf f) (S : Nat) : grl (oS f S) = grl f ∧ dep (oS f S) = dep f := by
  unfold grl dep
  rw [oS_hi f hf S (by omega), oS_hi f hf S (by omega)]
  exact ⟨rfl, rfl⟩
theorem nB_iff {f : Nat → Int32} (hf : Wf f) (n S : Nat) : nB n f S = true ↔ ∀ j, j < grl f → mN (GON n (oS f S)) j = mN f j := by
  unfold nB
  rw [decide_eq_true_iff]
  have h := GON_tm (oS_Wf hf S) n
  rw [(oS_grl hf S).1, tm_cg (f := oS f S) (g := f) (grl f) 0 (fun j _ _ => (oS_mN hf S j).1)] at h
  constructor
  · intro e j hj
    rw [← h.2 e.symm j hj, (oS_mN hf S j).1]
  · intro e
    exact tm_cg (grl f) 0 (fun j _ hj => e j (by omega))
theorem oS_Dk {f : Nat → Int32} (hf : Wf f) {S T : Nat} (h : ∀ i, i < dep f → S.testBit i = true → T.testBit i = true ∨ ¬ f (16 + 6 * i) = 0) : Dk (oS f S) (oS f T) := by
  refine ⟨⟨?_, ?_, ?_, fun i hi => ?_⟩, fun d hd => ?_, fun j hj => ?_⟩
  · rw [oS_hi f hf _ (by omega), oS_hi f hf _ (by omega)]
  · rw [oS_hi f hf _ (by omega), oS_hi f hf _ (by omega)]
  · rw [oS_hi f hf _ (by omega), oS_hi f hf _ (by omega)]
  · rw [oS_hi f hf _ (by omega), oS_hi f hf _ (by omega)]
  · have ne : ∀ (U i : Nat), (∀ e, i ≠ 16 + 6 * e) → oS f U i = f i := fun U i hi => oSk_ne f U (fun e _ => hi e)
    rw [ne S (11 + 6 * d) (fun e => by omega), ne T (11 + 6 * d) (fun e => by omega), ne S (12 + 6 * d) (fun e => by omega), ne T (12 + 6 * d) (fun e => by omega), ne S (14 + 6 * d) (fun e => by omega), ne T (14 + 6 * d) (fun e => by omega), ne S (15 + 6 * d) (fun e => by omega), ne T (15 + 6 * d) (fun e => by omega)]
    refine ⟨rfl, rfl, fun c => ⟨?_, rfl, fun _ => rfl⟩⟩
    by_cases hd2 : d < dep f
    · unfold oS at c ⊢
      rw [oSk_at f T hd2] at c
      rw [oSk_at f S hd2]
      by_cases bt : T.testBit d = true
      · rw [if_pos bt] at c; exact absurd c (by decide)
      · rw [if_neg bt] at c
        by_cases bs : S.testBit d = true
        · exact absurd c ((h d hd2 bs).resolve_left bt)
        · rw [if_neg bs]; exact c
    · have ne2 : ∀ U, oS f U (16 + 6 * d) = f (16 + 6 * d) := fun U => oSk_ne f U (fun e he => by omega)
      rw [ne2] at c ⊢
      exact c
  · obtain ⟨a1, a2, a3⟩ := oS_mN hf S j
    obtain ⟨b1, b2, b3⟩ := oS_mN hf T j
    rw [a1, a2, a3, b1, b2, b3]
    exact ⟨rfl, rfl, fun _ => Nat.le_refl _⟩
theorem nB_up {f : Nat → Int32} (hf : Wf f) {n S T : Nat} (h : ∀ i, i < dep f → S.testBit i = true → T.testBit i = true ∨ ¬ f (16 + 6 * i) = 0) (hS : nB n f S = true) : nB n f T = true := by
  rw [nB_iff hf] at hS ⊢
  intro j hj
  have h1 := quiet_Dk n _ _ (oS_Dk hf h) (oS_Wf hf S) (oS_Wf hf T) (fun j hj => by rw [(oS_grl hf S).1] at hj; rw [hS j hj, (oS_mN hf S j).1]) j (by rw [(oS_grl hf S).1]; exact hj)
  rw [h1, (oS_mN hf S j).1]
