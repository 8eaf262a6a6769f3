/-! A DAY GOES BY: the row behind it; the model does so -/
theorem jrem_nI {a b : Nat} (ha : a < 2 ^ 31) (h0 : 0 < b) (hb : b < 2 ^ 31) : jrem (nI a) (nI b) = nI (a % b) := pk_rem ha h0 hb
theorem in_iff {x : Int32} {n : Nat} (hn : n ≤ 100000) : (0 ≤ x ∧ x ≤ nI n - 1) ↔ ∃ q, q < n ∧ x = nI q := by
  have e : (nI n - 1).toInt = (n : Int) - ((1 : Nat) : Int) := pk_sub_toInt (a := n) (b := 1) (by omega) (by omega)
  constructor
  · rintro ⟨h1, h2⟩
    rw [Int32.le_iff_toInt_le] at h1 h2
    rw [e] at h2
    have h1 : 0 ≤ x.toInt := by simpa using h1
    refine ⟨x.toNatClampNeg, ?_, nI_of_bd h1 h2⟩
    show x.toInt.toNat < n
    omega
  · rintro ⟨q, hq, rfl⟩
    refine ⟨nI_pos' (by omega), ?_⟩
    rw [Int32.le_iff_toInt_le, e, nI_toInt (by omega)]
    omega
theorem lit_toInt {n : Nat} (h : n < 2 ^ 31) {x : Int32} (e : x = nI n) : x.toInt = (n : Int) := by subst e; exact nI_toInt h
theorem hld_bd {x a b : Int32} (h : a.toInt ≤ b.toInt) : a.toInt ≤ (hld x a b).toInt ∧ (hld x a b).toInt ≤ b.toInt := by
  unfold hld
  split
  · exact ⟨Int.le_refl _, h⟩
  · rename_i h1
    split
    · exact ⟨h, Int.le_refl _⟩
    · rename_i h2
      rw [Int32.lt_iff_toInt_lt] at h1 h2
      omega
theorem hld_n {x b : Int32} {n : Nat} (hn : n < 2 ^ 31) (e : b = nI n) : 0 ≤ (hld x 0 b).toInt ∧ (hld x 0 b).toInt ≤ n := by
  have := hld_bd (x := x) (a := 0) (b := b) (by rw [lit_toInt hn e]; simp)
  rw [lit_toInt hn e] at this
  simpa using this
theorem upd_s {f : Nat → Int32} {i : Nat} {v : Int32} : upd f i v i = v := if_pos rfl
theorem upd_n {f : Nat → Int32} {i j : Nat} {v : Int32} (h : j ≠ i) : upd f i v j = f j := if_neg h
theorem upd_u (f : Nat → Int32) (i : Nat) (v u : Int32) : upd (upd f i v) i u = upd f i u := by
  funext j; unfold upd; split <;> rfl
theorem upd_c (f : Nat → Int32) {i j : Nat} (h : i ≠ j) (v u : Int32) : upd (upd f i v) j u = upd (upd f j u) i v := by
  funext k; unfold upd; by_cases h1 : k = j
  · subst h1; rw [if_pos rfl, if_neg (Ne.symm h), if_pos rfl]
  · rw [if_neg h1]; by_cases h2 : k = i
    · rw [if_pos h2, if_pos h2]
    · rw [if_neg h2, if_neg h2, if_neg h1]
theorem upd_i (f : Nat → Int32) (i : Nat) : upd f i (f i) = f := by
  funext j; unfold upd; split
  · rename_i e; rw [e]
  · rfl
def stI (f : Nat → Int32) : Nat := (f (5 + (f 0).toNatClampNeg % 6)).toNatClampNeg
def stG (f : Nat → Int32) (g hh : Nat) : Nat → Int32 := if hld (f (59 + 3 * g) + lgt f (nI hh)) 0 99 < f (60 + 3 * g) then upd (upd f (59 + 3 * g) (hld (f (59 + 3 * g) + lgt f (nI hh)) 0 99)) (61 + 3 * g) (hld (f (61 + 3 * g) + 0) 0 9999) else upd (upd f (59 + 3 * g) 0) (61 + 3 * g) (hld (f (61 + 3 * g) + 1) 0 9999)
def stn (f : Nat → Int32) : Nat → Int32 := if stI f / 100 < grl f then stG f (stI f / 100) (stI f % 100) else f
def fee (f : Nat → Int32) : Nat → Int32 := upd f 1 (hld (f 1 + cas f) 0 99999)
def ag1 (f : Nat → Int32) (d : Nat) : Nat → Int32 := if f (16 + 6 * d) = 0 then upd (upd f (15 + 6 * d) (hld (f (15 + 6 * d) + wrs f d) 0 99)) (14 + 6 * d) (hld (f (14 + 6 * d) + 1) 0 9999) else f
def agN : Nat → Nat → (Nat → Int32) → Nat → Int32
  | 0, _, f => f
  | k + 1, d, f => agN k (d + 1) (ag1 f d)
def dayUp (f : Nat → Int32) : Nat → Int32 := upd f 0 (hld (f 0 + 1) 0 99999)
def GOES (f : Nat → Int32) : Nat → Int32 := dayUp (agN (dep f) 0 (fee (stn f)))
def GON : Nat → (Nat → Int32) → Nat → Int32
  | 0, f => f
  | n + 1, f => GON n (GOES f)
/-! they stay well-formed; what no day changes -/
theorem stG_Wf {f : Nat → Int32} (h : Wf f) {g hh : Nat} (hg : g < 6) : Wf (stG f g hh) := by
  unfold stG
  have b0 : hiB (59 + 3 * g) = 99 := hiB_gr g hg 0 (by omega)
  have b2 : hiB (61 + 3 * g) = 9999 := by have := hiB_gr g hg 2 (by omega); rw [show 59 + 3 * g + 2 = 61 + 3 * g by omega] at this; exact this
  split
  · refine Wf_upd (Wf_upd h (by omega) (by omega) (fun _ => ?_) (fun _ _ => by omega)) (by omega) (by omega) (fun _ => ?_) (fun _ _ => by omega)
    · rw [b0]; exact hld_n (n := 99) (by omega) rfl
    · rw [b2]; exact hld_n (n := 9999) (by omega) rfl
  · refine Wf_upd (Wf_upd h (by omega) (by omega) (fun _ => ?_) (fun _ _ => by omega)) (by omega) (by omega) (fun _ => ?_) (fun _ _ => by omega)
    · rw [b0]; decide
    · rw [b2]; exact hld_n (n := 9999) (by omega) rfl
theorem stn_Wf {f : Nat → Int32} (h : Wf f) : Wf (stn f) := by
  unfold stn
  split
  · rename_i c; exact stG_Wf h (by have := Wf_grl h; omega)
  · exact h
theorem fee_Wf {f : Nat → Int32} (h : Wf f) : Wf (fee f) := Wf_upd h (by omega) (by omega) (fun _ => hld_n (n := 99999) (by omega) rfl) (fun _ _ => by omega)
theorem dayUp_Wf {f : Nat → Int32} (h : Wf f) : Wf (dayUp f) := Wf_upd h (by omega) (by omega) (fun _ => hld_n (n := 99999) (by omega) rfl) (fun _ _ => by omega)
theorem ag1_Wf {f : Nat → Int32} (h : Wf f) {d : Nat} (hd : d < 8) : Wf (ag1 f d) := by
  unfold ag1
  have b3 : hiB (14 + 6 * d) = 9999 := by have := hiB_it d hd 3 (by omega); rw [show 11 + 6 * d + 3 = 14 + 6 * d by omega] at this; exact this
  have b4 : hiB (15 + 6 * d) = 99 := by have := hiB_it d hd 4 (by omega); rw [show 11 + 6 * d + 4 = 15 + 6 * d by omega] at this; exact this
  split
  · refine Wf_upd (Wf_upd h (by omega) (by omega) (fun _ => ?_) (fun _ _ => by omega)) (by omega) (by omega) (fun _ => ?_) (fun _ _ => by omega)
    · rw [b4]; exact hld_n (n := 99) (by omega) rfl
    · rw [b3]; exact hld_n (n := 9999) (by omega) rfl
  · exact h
theorem ag1_at {f : Nat → Int32} {d i : Nat} (h1 : i ≠ 15 + 6 * d) (h2 : i ≠ 14 + 6 * d) : ag1 f d i = f i := by
  unfold ag1; split
  · rw [upd_n h2, upd_n h1]
  · rfl
theorem agN_Wf : ∀ (k d : Nat) (f : Nat → Int32), d + k ≤ 8 → Wf f → Wf (agN k d f) := by
  intro k
  induction k with
  | zero => intro d f _ h; exact h
  | succ k ih => intro d f hd h; exact ih (d + 1) _ (by omega) (ag1_Wf h (by omega))
theorem stn_at {f : Nat → Int32} {i : Nat} (h : i < 59 ∨ 77 ≤ i) (hg : grl f ≤ 6) : stn f i = f i := by
  unfold stn stG
  split
  · split
    · rw [upd_n (by omega), upd_n (by omega)]
    · rw [upd_n (by omega), upd_n (by omega)]
  · rfl
theorem dep_stn {f : Nat → Int32} (h : Wf f) : dep (stn f) = dep f := by unfold dep; rw [stn_at (by omega) (Wf_grl h).1]
theorem dep_fee (f : Nat → Int32) : dep (fee f) = dep f := by unfold dep fee; rw [upd_n (by omega)]
theorem dep_ag1 (f : Nat → Int32) (d : Nat) : dep (ag1 f d) = dep f := by unfold dep; rw [ag1_at (by omega) (by omega)]
theorem GOES_Wf {f : Nat → Int32} (h : Wf f) : Wf (GOES f) := dayUp_Wf (agN_Wf _ _ _ (by have := Wf_dep h; omega) (fee_Wf (stn_Wf h)))
theorem GON_Wf : ∀ (n : Nat) (f : Nat → Int32), Wf f → Wf (GON n f) := by
  intro n; induction n with
  | zero => intro f h; exact h
  | succ n ih => intro f h; exact ih _ (GOES_Wf h)
section GOM
variable {w : A_W} {h : Nat → Nat → Int32} {s : Nat → Int32}
theorem M_stands_49 (hM : MM w h s) {g : Nat} (hg : g < 6) {x : Int32} (hx : x = nI g) (v x4 : Int32) : F_M_stands_49 49 x x4 49 x 0 v w = some (mW w 0 (upd (upd (h 0) (59 + 3 * g) v) (61 + 3 * g) (hld (h 0 (61 + 3 * g) + (if x4 = 0 then 0 else 1)) 0 9999))) := by
  unfold F_M_stands_49 F_M_stands_71
  have h1 := hM.set (a := 0) (by omega) (upd (h 0) (59 + 3 * g) v)
  simp only [hM.ob_, Option.bind_some, M_lets hM hg (e := 0) (y := 0) (by omega) hx rfl, Nat.add_zero, h1.ob_, M_her h1 hg (e := 2) (y := 2) (by omega) hx rfl, M_held, M_lets h1 hg (e := 2) (y := 2) (by omega) hx rfl, hset_self, mW_mW]
  rw [show 59 + 3 * g + 2 = 61 + 3 * g by omega, upd_n (by omega)]
  split <;> rfl
theorem M_stands (hM : MM w h s) (hf : Wf (h 0)) {g hh : Nat} (hg : g < 6) {x y : Int32} (hx : x = nI g) (hy : y = nI hh) : F_M_stands 49 x y w = some (mW w 0 (stG (h 0) g hh)) := by
  unfold F_M_stands F_M_stands_0 F_M_stands_34
  simp only [hM.ob_, Option.bind_some, M_her hM hg (e := 0) (y := 0) (by omega) hx rfl, M_her hM hg (e := 1) (y := 1) (by omega) hx rfl, M_lightAt hM hf, M_held, M_stands_49 hM hg hx, Nat.add_zero]
  rw [show 59 + 3 * g + 1 = 60 + 3 * g by omega, hy]
  unfold stG
  split
  · first | rw [if_pos trivial, if_pos trivial] | rw [if_pos rfl, if_pos rfl]
  · first | rw [if_neg (by decide), if_neg (by decide)] | simp
theorem M_goes_loop : ∀ (n k d : Nat) (w : A_W) (h : Nat → Nat → Int32) (x : Int32), MM w h s → Wf (h 0) → x = nI d → d + k = dep (h 0) → k < n → F_M_goes_65 n 49 x w = some (mW w 0 (dayUp (agN k d (h 0)))) := by
  intro n
  induction n with
  | zero => intro k d w h x _ _ _ _ hk; exact absurd hk (by omega)
  | succ n ih =>
    intro k d w h x hM hf hx hk hn
    obtain ⟨h8, h3⟩ := Wf_dep hf
    rw [F_M_goes_65]
    simp only [hM.gr0, Option.bind_some, hM.rd0 (i := 3) (x := 3) (by omega) rfl]
    rw [h3, hx]
    cases k with
    | zero =>
      rw [if_pos (nI_le (by omega) (by omega))]
      simp only [hM.rd0 (i := 0) (x := 0) (by omega) rfl, Option.bind_some, M_held, hM.wr0 (i := 0) (x := 0) (by omega) rfl]
      rfl
    | succ k =>
      rw [if_neg (fun z => by rw [nI_leI (by omega) (by omega)] at z; omega)]
      have hd : d < 8 := by omega
      unfold F_M_goes_128
      simp only [hM.ob_, Option.bind_some, M_isHere hM hd rfl, bI_0]
      by_cases c1 : h 0 (16 + 6 * d) = 0
      · rw [if_neg (fun z => z c1)]
        have h1 := hM.set (a := 0) (by omega) (upd (h 0) (15 + 6 * d) (hld (h 0 (15 + 6 * d) + wrs (h 0) d) 0 99))
        simp only [M_it hM hd (e := 4) (y := 4) (by omega) rfl rfl, Option.bind_some, hM.ob_, M_wears hM hf hd rfl, M_held, M_put hM hd (e := 4) (y := 4) (by omega) rfl rfl]
        rw [show 11 + 6 * d + 4 = 15 + 6 * d by omega]
        simp only [h1.ob_, Option.bind_some, M_it h1 hd (e := 3) (y := 3) (by omega) rfl rfl, M_put h1 hd (e := 3) (y := 3) (by omega) rfl rfl, hset_self, mW_mW]
        rw [show 11 + 6 * d + 3 = 14 + 6 * d by omega, upd_n (by omega)]
        have e : ag1 (h 0) d = upd (upd (h 0) (15 + 6 * d) (hld (h 0 (15 + 6 * d) + wrs (h 0) d) 0 99)) (14 + 6 * d) (hld (h 0 (14 + 6 * d) + 1) 0 9999) := if_pos c1
        rw [← e]
        have h2 := hM.set (a := 0) (by omega) (ag1 (h 0) d)
        have h3 := ih k (d + 1) _ _ (nI d + 1) h2 (by rw [hset_self]; exact ag1_Wf hf hd) (nI_1 d) (by rw [hset_self, dep_ag1]; omega) (by omega)
        rw [hset_self, mW_mW] at h3
        exact h3
      · rw [if_pos c1]
        have e : ag1 (h 0) d = h 0 := if_neg c1
        have h3 := ih k (d + 1) w h (nI d + 1) hM hf (nI_1 d) (by omega) (by omega)
        rw [agN, e]
        exact h3
theorem M_goes_40 (hM : MM w h s) (hf : Wf (h 0)) : F_M_goes_40 49 w = some (mW w 0 (dayUp (agN (dep (h 0)) 0 (fee (h 0))))) := by
  unfold F_M_goes_40
  have h1 := hM.set (a := 0) (by omega) (fee (h 0))
  simp only [hM.gr0, Option.bind_some, hM.rd0 (i := 1) (x := 1) (by omega) rfl, hM.ob_, M_allCost hM hf, M_held, hM.wr0 (i := 1) (x := 1) (by omega) rfl]
  have h2 := M_goes_loop FU (dep (fee (h 0))) 0 _ _ 0 h1 (by rw [hset_self]; exact fee_Wf hf) rfl (by rw [hset_self]; omega) (by have := Wf_dep hf; rw [dep_fee]; unfold FU; omega)
  rw [hset_self, mW_mW, dep_fee] at h2
  exact h2
theorem stI_n {f : Nat → Int32} (hf : Wf f) : f (5 + (f 0).toNatClampNeg % 6) = nI (stI f) ∧ stI f ≤ 515 ∧ stI f % 100 ≤ 15 ∧ f 0 = nI (f 0).toNatClampNeg ∧ (f 0).toNatClampNeg ≤ 99999 := by
  have hm : (f 0).toNatClampNeg % 6 < 6 := Nat.mod_lt _ (by omega)
  have h1 := hf.1 (5 + (f 0).toNatClampNeg % 6) (by omega) (by omega)
  rw [hiB_li _ hm] at h1
  have h2 := hf.2.1 _ hm
  have h0 := hf.1 0 (by omega) (by omega)
  have e0 : hiB 0 = 99999 := rfl
  rw [e0] at h0
  have e : stI f = (f (5 + (f 0).toNatClampNeg % 6)).toInt.toNat := rfl
  refine ⟨nI_of_bd h1.1 h1.2, by omega, by omega, nI_of_bd h0.1 h0.2, ?_⟩
  show (f 0).toInt.toNat ≤ 99999
  omega
theorem M_goes (hM : MM w h s) (hf : Wf (h 0)) : F_M_goes 49 w = some (mW w 0 (GOES (h 0))) := by
  unfold F_M_goes F_M_goes_0
  obtain ⟨e1, e2, e3, e4, e5⟩ := stI_n hf
  have e6 : jrem (h 0 0) 6 = nI ((h 0 0).toNatClampNeg % 6) := by rw [e4, nI_clamp (by omega)]; exact jrem_nI (b := 6) (by omega) (by omega) (by omega)
  simp only [hM.gr0, Option.bind_some, hM.rd0 (i := 0) (x := 0) (by omega) rfl]
  rw [e6, hM.rd0 (i := 5 + (h 0 0).toNatClampNeg % 6) (by omega) (n5 rfl), Option.bind_some, e1]
  have e7 : nI (stI (h 0)) / 100 = nI (stI (h 0) / 100) := pk_div (d := 100) (by omega) (by omega) (by omega)
  have e8 : jrem (nI (stI (h 0))) 100 = nI (stI (h 0) % 100) := jrem_nI (b := 100) (by omega) (by omega) (by omega)
  rw [e7, e8]
  simp only [hM.ob_, Option.bind_some, M_isGirl hM, bI_0]
  obtain ⟨g6, g4⟩ := Wf_grl hf
  rw [g4]
  by_cases c : stI (h 0) / 100 < grl (h 0)
  · rw [if_neg (fun z => z ((in_iff (by omega)).mpr ⟨_, c, rfl⟩)), M_stands hM hf (by omega) rfl rfl, Option.bind_some]
    have es : stn (h 0) = stG (h 0) (stI (h 0) / 100) (stI (h 0) % 100) := if_pos c
    rw [← es]
    have h2 := M_goes_40 (hM.set (a := 0) (by omega) (stn (h 0))) (by rw [hset_self]; exact stn_Wf hf)
    rw [hset_self, mW_mW, dep_stn hf] at h2
    exact h2
  · rw [if_pos (fun z => c (by obtain ⟨q, hq, e⟩ := (in_iff (by omega)).mp z; rw [nI_eq (by omega) (by omega)] at e; omega))]
    have es : stn (h 0) = h 0 := if_neg c
    rw [M_goes_40 hM hf]
    unfold GOES
    rw [es]
theorem M_goesFor_loop : ∀ (m n k : Nat) (w : A_W) (h : Nat → Nat → Int32) (x y : Int32), MM w h s → Wf (h 0) → x = nI (n + k) → y = nI k → n + k ≤ 100000 → n < m → F_M_goesFor_2 m 49 x y w = some (mW w 0 (GON n (h 0))) := by
  intro m
  induction m with
  | zero => intro n k w h x y _ _ _ _ _ hk; exact absurd hk (by omega)
  | succ m ih =>
    intro n k w h x y hM hf hx hy hb hn
    rw [F_M_goesFor_2, hx, hy]
    cases n with
    | zero =>
      rw [if_pos (nI_le (by omega) (by omega))]
      show some w = some (mW w 0 (h 0))
      rw [hM.mW_id (by omega)]
    | succ n =>
      rw [if_neg (fun z => by rw [nI_leI (by omega) (by omega)] at z; omega)]
      simp only [hM.ob_, Option.bind_some, M_goes hM hf]
      have h3 := ih n (k + 1) _ _ (nI (n + 1 + k)) (nI k + 1) (hM.set (a := 0) (by omega) (GOES (h 0))) (by rw [hset_self]; exact GOES_Wf hf) (by congr 1; omega) (nI_1 k) (by omega) (by omega)
      rw [hset_self, mW_mW] at h3
      exact h3
theorem M_goesFor (hM : MM w h s) (hf : Wf (h 0)) {n : Nat} (hn : n < 100000) {x : Int32} (hx : x = nI n) : F_M_goesFor 49 x w = some (mW w 0 (GON n (h 0))) := by
  unfold F_M_goesFor F_M_goesFor_0
  exact M_goesFor_loop FU n 0 w h x 0 hM hf hx rfl (by omega) (by unfold FU; omega)
end GOM
