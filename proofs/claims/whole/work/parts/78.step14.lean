/-! SETS AS NUMBERS -/
theorem xor_nI {a b : Nat} (ha : a < 2 ^ 32) (hb : b < 2 ^ 32) : nI a ^^^ nI b = nI (a ^^^ b) := by
  apply Int32.toBitVec_inj.mp
  apply BitVec.eq_of_toNat_eq
  rw [Int32.toBitVec_xor, BitVec.toNat_xor, pk_tn ha, pk_tn hb, pk_tn (Nat.xor_lt_two_pow ha hb)]
def nd (a b : Nat) : Nat := a &&& (b ^^^ 4294967295)
theorem nd_nI {a b : Nat} (ha : a < 2 ^ 32) (hb : b < 2 ^ 32) : nI a &&& (nI b ^^^ (-1)) = nI (nd a b) := by
  rw [show (-1 : Int32) = nI 4294967295 by decide, xor_nI hb (by decide), and_nI ha (Nat.xor_lt_two_pow hb (by decide))]
  rfl
theorem nd_b {a b i : Nat} (hi : i < 32) : (nd a b).testBit i = (a.testBit i && !b.testBit i) := by
  unfold nd
  rw [Nat.testBit_and, Nat.testBit_xor, show 4294967295 = 2 ^ 32 - 1 by decide, Nat.testBit_two_pow_sub_one, decide_eq_true hi, Bool.xor_true]
def sb (c g : Nat) : Prop := ∀ i, c.testBit i = true → g.testBit i = true
theorem tb_lt {c i n : Nat} (hc : c < 2 ^ n) (h : c.testBit i = true) : i < n := by
  by_cases e : i < n
  · exact e
  · rw [Nat.testBit_lt_two_pow (Nat.lt_of_lt_of_le hc (Nat.pow_le_pow_right (by omega) (by omega)))] at h
    exact absurd h (by decide)
theorem sb_iff {c g : Nat} (hc : c < 256) : nd c g = 0 ↔ sb c g := by
  constructor
  · intro h i hi
    have i8 := tb_lt (n := 8) hc hi
    have e := nd_b (a := c) (b := g) (i := i) (by omega)
    rw [h, hi, Nat.zero_testBit] at e
    cases hg : g.testBit i with
    | true => rfl
    | false => rw [hg] at e; exact absurd e (by decide)
  · intro h
    apply Nat.eq_of_testBit_eq
    intro i
    rw [Nat.zero_testBit]
    by_cases hi : i < 32
    · rw [nd_b hi]
      cases hc2 : c.testBit i with
      | false => rfl
      | true => rw [h i hc2]; rfl
    · unfold nd
      rw [Nat.testBit_and]
      have : c.testBit i = false := by
        cases e : c.testBit i with
        | false => rfl
        | true => exact absurd (tb_lt (n := 8) hc e) (by omega)
      rw [this]; rfl
theorem sb_le {c g : Nat} (h : sb c g) : c ≤ g := by
  have e : c &&& g = c := by
    apply Nat.eq_of_testBit_eq
    intro i
    rw [Nat.testBit_and]
    cases e : c.testBit i with
    | false => rfl
    | true => rw [h i e]; rfl
  rw [← e]; exact Nat.and_le_right
theorem pc_b (v : Nat) : pc v = (v.testBit 0).toNat + (v.testBit 1).toNat + (v.testBit 2).toNat + (v.testBit 3).toNat + (v.testBit 4).toNat + (v.testBit 5).toNat + (v.testBit 6).toNat + (v.testBit 7).toNat := by
  unfold pc
  simp only [Nat.toNat_testBit, Nat.reducePow, Nat.div_one]
theorem pc_lt {c g : Nat} (hc : c < 256) (h : ¬ sb c g) : pc (c &&& g) < pc c := by
  obtain ⟨i, hi⟩ := Classical.not_forall.mp h
  obtain ⟨h1, h2⟩ := Classical.not_imp.mp hi
  have i8 := tb_lt (n := 8) hc h1
  have le : ∀ i, ((c &&& g).testBit i).toNat ≤ (c.testBit i).toNat := fun i => by
    rw [Nat.testBit_and]
    cases c.testBit i <;> cases g.testBit i <;> decide
  have lt : ((c &&& g).testBit i).toNat < (c.testBit i).toNat := by
    rw [Nat.testBit_and, h1]
    cases hg : g.testBit i with
    | true => exact absurd hg h2
    | false => decide
  rw [pc_b, pc_b]
  have l0 := le 0
  have l1 := le 1
  have l2 := le 2
  have l3 := le 3
  have l4 := le 4
  have l5 := le 5
  have l6 := le 6
  have l7 := le 7
  rcases (show i = 0 ∨ i = 1 ∨ i = 2 ∨ i = 3 ∨ i = 4 ∨ i = 5 ∨ i = 6 ∨ i = 7 by omega) with rfl | rfl | rfl | rfl | rfl | rfl | rfl | rfl <;> omega
theorem pcc_s {b : Nat} (hb : b < 256) : pcc b = pc b := by
  unfold pcc
  rw [Nat.mod_eq_of_lt hb, Nat.div_eq_of_lt hb]
  rfl
theorem pc_dep : ∀ d, d < 9 → ∀ c, c < 2 ^ d → pc c ≤ d := by decide +kernel
theorem p2_le : ∀ d, d < 9 → 2 ^ d ≤ 256 := by decide +kernel
theorem sh_bit {S d : Nat} (hS : S < 256) (hd : d < 8) : ((nI S >>> (nI d &&& 31)) &&& 1) = nI (S.testBit d).toNat := by
  have hs : ∀ d, d < 8 → ((nI d &&& 31 : Int32).toBitVec.smod 32).toNat = d := by decide +kernel
  have h2 : S / 2 ^ d ≤ S := Nat.div_le_self _ _
  rw [pk_shrN (by omega) _ d (hs d hd), pk_andN (by omega) (m := 1) 1 (by decide), Nat.toNat_testBit]
theorem gnN_b (f : Nat → Int32) : ∀ (k d a : Nat), d + k ≤ 8 → a < 256 → ∃ c, c < 256 ∧ gnN f k d (nI a) = nI c ∧ ∀ i, c.testBit i = (a.testBit i || decide ((d ≤ i ∧ i < d + k) ∧ ¬ f (16 + 6 * i) = 0)) := by
  intro k
  induction k with
  | zero => intro d a _ ha; exact ⟨a, ha, rfl, fun i => by rw [decide_eq_false (fun z => by omega), Bool.or_false]⟩
  | succ k ih =>
    intro d a hd ha
    rw [gnN]
    by_cases c : f (16 + 6 * d) = 0
    · rw [if_pos c]
      obtain ⟨e, h1, h2, h3⟩ := ih (d + 1) a (by omega) ha
      refine ⟨e, h1, h2, fun i => ?_⟩
      rw [h3 i]
      congr 1
      apply decide_eq_decide.mpr
      constructor
      · rintro ⟨h4, h5⟩; exact ⟨by omega, h5⟩
      · rintro ⟨h4, h5⟩; exact ⟨⟨by have : i ≠ d := fun z => h5 (by rw [z]; exact c); omega, by omega⟩, h5⟩
    · rw [if_neg c, shl_n d (by omega)]
      have p1 : (2 : Nat) ^ d < 2 ^ 8 := Nat.pow_lt_pow_right (by omega) (by omega)
      rw [or_nI (by omega) (by omega)]
      obtain ⟨e, h1, h2, h3⟩ := ih (d + 1) (a ||| 2 ^ d) (by omega) (Nat.or_lt_two_pow (n := 8) ha p1)
      refine ⟨e, h1, h2, fun i => ?_⟩
      rw [h3 i, Nat.testBit_or, Nat.testBit_two_pow, Bool.or_assoc]
      congr 1
      by_cases e1 : d = i
      · subst e1
        rw [decide_eq_true rfl, decide_eq_true (show (d ≤ d ∧ d < d + (k + 1)) ∧ ¬ f (16 + 6 * d) = 0 from ⟨by omega, c⟩)]; rfl
      · rw [decide_eq_false e1, Bool.false_or]
        apply decide_eq_decide.mpr
        constructor
        · rintro ⟨h4, h5⟩; exact ⟨by omega, h5⟩
        · rintro ⟨h4, h5⟩; exact ⟨by omega, h5⟩
theorem hang {f : Nat → Int32} (hf : Wf f) : ∃ g, g < 2 ^ dep f ∧ ((1 <<< (f 3 &&& 31)) - 1) &&& (gns f ^^^ (-1)) = nI g ∧ ∀ i, g.testBit i = decide (i < dep f ∧ f (16 + 6 * i) = 0) := by
  obtain ⟨d8, e3⟩ := Wf_dep hf
  obtain ⟨c, h1, h2, h3⟩ := gnN_b f (dep f) 0 0 (by omega) (by omega)
  have p1 := p2_le (dep f) (by omega)
  have p0 : 0 < 2 ^ dep f := Nat.two_pow_pos _
  refine ⟨nd (2 ^ dep f - 1) c, ?_, ?_, fun i => ?_⟩
  · exact Nat.lt_of_le_of_lt Nat.and_le_left (by omega)
  · have e : gns f = nI c := h2
    rw [e3, shl_n (dep f) (by omega), e, show nI (2 ^ dep f) - 1 = nI (2 ^ dep f - 1) from pk_sub (b := 1) (by omega), nd_nI (by omega) (by omega)]
  · by_cases hi : i < 32
    · rw [nd_b hi, h3 i, Nat.testBit_two_pow_sub_one, Nat.zero_testBit, Bool.false_or]
      by_cases c1 : i < dep f
      · by_cases c2 : f (16 + 6 * i) = 0
        · rw [decide_eq_true c1, decide_eq_false (fun z => z.2 c2), decide_eq_true (show i < dep f ∧ f (16 + 6 * i) = 0 from ⟨c1, c2⟩)]; rfl
        · rw [decide_eq_true (show (0 ≤ i ∧ i < 0 + dep f) ∧ ¬ f (16 + 6 * i) = 0 from ⟨by omega, c2⟩), decide_eq_false (show ¬ (i < dep f ∧ f (16 + 6 * i) = 0) from fun z => c2 z.2), Bool.not_true, Bool.and_false]
      · rw [decide_eq_false c1, decide_eq_false (show ¬ (i < dep f ∧ f (16 + 6 * i) = 0) from fun z => c1 z.1)]; rfl
    · rw [decide_eq_false (fun z => by omega)]
      unfold nd
      rw [Nat.testBit_and, Nat.testBit_two_pow_sub_one, decide_eq_false (by omega)]; rfl
/-! THE FEWEST TO GIVE OUT -/
theorem R_giveOutSet_loop {t S : Nat} (hS : S < 256) {g : Nat → Int32} (hf : Wf g) : ∀ (m k d : Nat) (w : A_W) (x : Int32), RC w t (oSk g S d) → x = nI d → d + k = dep g → k < m → F_R_giveOutSet_2 m t (nI S) x w = some (rW w t (oS g S)) := by
  intro m
  induction m with
  | zero => intro k d w x _ _ _ hk; exact absurd hk (by omega)
  | succ m ih =>
    intro k d w x R hx hk hm
    obtain ⟨d8, e3⟩ := Wf_dep hf
    rw [F_R_giveOutSet_2, R.gi3, Option.bind_some, oSk_ne g S (fun e _ => by omega), e3, hx]
    cases k with
    | zero =>
      rw [if_pos (nI_le (by omega) (by omega))]
      unfold oS
      rw [show dep g = d by omega, R.rW_id]
    | succ k =>
      rw [if_neg (fun z => by rw [nI_leI (by omega) (by omega)] at z; omega), sh_bit hS (by omega)]
      unfold F_R_giveOutSet_25
      have es := oSk_s g S d
      cases b : S.testBit d with
      | false =>
        rw [b, if_neg (by decide)] at es
        rw [if_pos (by rfl)]
        exact ih k (d + 1) w _ (by rw [es]; exact R) (nI_1 d) (by omega) (by omega)
      | true =>
        rw [b, if_pos rfl] at es
        rw [if_neg (by decide), R.gr11, Option.bind_some, R.wr_out (i := d) (by omega) rfl, Option.bind_some, ← es]
        rw [ih k (d + 1) _ _ (R.set _) (nI_1 d) (by omega) (by omega), rW_rW]
theorem R_giveOutSet {w : A_W} {t S : Nat} {g : Nat → Int32} (R : RC w t g) (hS : S < 256) (hf : Wf g) : F_R_giveOutSet t (nI S) w = some (rW w t (oS g S)) := by
  unfold F_R_giveOutSet F_R_giveOutSet_0
  have h1 := R_giveOutSet_loop (t := t) hS hf FU (dep g) 0 w 0 (by rw [oSk_0]; exact R) rfl (by omega) (by have := (Wf_dep hf).1; unfold FU; omega)
  rw [h1]
section GIV
variable {h : Nat → Nat → Int32} {s : Nat → Int32} {g3 q : Nat → Int32}
theorem K_nobody_loop {N T : Nat} (hN' : N ≤ 100) (hT : T ≤ 59994) : ∀ (m k d : Nat) (w : A_W) (t : Nat → Int32) (x : Int32), RelX w h s t g3 q → Wf t → tm t (grl t) 0 = T → x = nI d → d + k = N → k < m → ∃ u, F_K_nobodyMeets_30 m 0 (nI N) (nI T) x w = some (tdI (decide (tm (GON k t) (grl t) 0 = T)), rW w 13 u) := by
  intro m
  induction m with
  | zero => intro k d w t x _ _ _ _ _ hk; exact absurd hk (by omega)
  | succ m ih =>
    intro k d w t x R hf ht hx hk hm
    rw [F_K_nobodyMeets_30, hx]
    cases k with
    | zero =>
      rw [if_pos (nI_le (by omega) (by omega)), bz1, Option.bind_some]
      exact ⟨t, by rw [R.2.2.2.1.rW_id, GON, decide_eq_true ht]; rfl⟩
    | succ k =>
      rw [if_neg (fun z => by rw [nI_leI (by omega) (by omega)] at z; omega)]
      have hp := R_passDays R.2.2.2.1 hf (n := 1) (x := 1) (by omega) rfl
      have R1 := R.trial (GOES t)
      have hW := GOES_Wf hf
      have eg := GO_grl hf
      have hp : F_R_passDays 13 1 w = some (rW w 13 (GOES t)) := hp
      have hm2 := R_metTogether R1.2.2.2.1 hW
      rw [sms_tm hW] at hm2
      have g6 := Wf_grl hW
      have tb := tm_bd hW (grl (GOES t)) 0 (by omega)
      rw [R.kg1, Option.bind_some, R.2.2.2.1.ob_, Option.bind_some, hp, Option.bind_some, R1.kg1, Option.bind_some, R1.2.2.2.1.ob_, Option.bind_some, hm2, Option.bind_some]
      dsimp only
      by_cases c : tm (GOES t) (grl (GOES t)) 0 = T
      · rw [if_pos (by rw [c])]
        obtain ⟨u, hu⟩ := ih k (d + 1) _ _ (nI d + 1) R1 hW c (nI_1 d) (by omega) (by omega)
        exact ⟨u, by rw [hu, rW_rW, eg]; rfl⟩
      · rw [if_neg (fun z => c ((nI_eq (by omega) (by omega)).mp z)), bz0, Option.bind_some]
        have c1 := GO_tm hf
        have c2 := (GON_tm hW k).1
        rw [eg] at c c2
        exact ⟨GOES t, by rw [decide_eq_false (show ¬ tm (GON (k + 1) t) (grl t) 0 = T by rw [GON]; omega)]; rfl⟩
theorem K_nobody {w : A_W} {g2 : Nat → Int32} (R : RelX w h s g2 g3 q) (hf : Wf (h 0)) {n S : Nat} (hn : n ≤ 100) (hS : S < 256) : ∃ u, F_K_nobodyMeets 0 (nI S) (nI n) w = some (tdI (nB n (h 0) S), rW w 13 u) := by
  unfold F_K_nobodyMeets F_K_nobodyMeets_0
  have R1 := R.trial (h 0)
  have R2 := R.trial (oS (h 0) S)
  have hw := oS_Wf hf S
  have g6 := Wf_grl hf
  have tb := tm_bd hf (grl (h 0)) 0 (by omega)
  have ho := R_giveOutSet R1.2.2.2.1 hS hf
  rw [rW_rW] at ho
  have hm2 := R_metTogether R2.2.2.1 hf
  rw [sms_tm hf] at hm2
  obtain ⟨u, hu⟩ := K_nobody_loop (N := n) (T := tm (h 0) (grl (h 0)) 0) hn (by omega) FU n 0 _ _ 0 R2 hw (by rw [(oS_grl hf S).1]; exact tm_cg _ _ (fun j _ _ => (oS_mN hf S j).1)) rfl (by omega) (by unfold FU; omega)
  refine ⟨u, ?_⟩
  rw [R.kg1, Option.bind_some, R.kg0, Option.bind_some, R.2.2.2.1.ob_, Option.bind_some, R_become R.2.2.2.1 R.2.2.1 (by omega), Option.bind_some, R1.kg1, Option.bind_some, R1.2.2.2.1.ob_, Option.bind_some, ho, Option.bind_some, R2.kg0, Option.bind_some, R2.2.2.1.ob_, Option.bind_some, hm2, Option.bind_some]
  dsimp only
  rw [hu, rW_rW, (oS_grl hf S).1]
  rfl
theorem M_asNow_loop {w : A_W} (hM : MM w h s) (hf : Wf (h 0)) {n S : Nat} (hn : n ≤ 100) (hS : S < 256) : ∀ (m k d : Nat) (x : Int32), x = nI d → d + k = dep (h 0) → k < m → F_M_isAsNow_9 m 49 (nI S) (nI n) (nI (tm (h 0) (grl (h 0)) 0)) x (mW (mW w 2 (cpR (h 0) (h 2))) 0 (oSk (h 0) S d)) = some (tdI (nB n (h 0) S), mW w 2 (cpR (h 0) (h 2))) := by
  intro m
  induction m with
  | zero => intro k d x _ _ hk; exact absurd hk (by omega)
  | succ m ih =>
    intro k d x hx hk hm
    obtain ⟨d8, e3⟩ := Wf_dep hf
    have h1 := hM.set (a := 2) (by omega) (cpR (h 0) (h 2))
    have h2 := h1.set (a := 0) (by omega) (oSk (h 0) S d)
    have r3 := h2.rd0 (i := 3) (x := 3) (by omega) rfl
    rw [hset_self, oSk_ne (h 0) S (fun e _ => by omega), e3] at r3
    rw [F_M_isAsNow_9, h2.gr0, Option.bind_some, r3, Option.bind_some, hx]
    cases k with
    | zero =>
      have ed : d = dep (h 0) := by omega
      subst ed
      have hw := oS_Wf hf S
      have hT : Tl (h 0) (oS (h 0) S) := fun i hi => oS_hi _ hf S (by omega)
      have mb := M_metBehind hM hw hT (n := n) (x := nI n) (by omega) rfl
      have hW := GON_Wf n _ hw
      have eg : grl (GON n (oS (h 0) S)) = grl (h 0) := by rw [GON_grl n _ hw, (oS_grl hf S).1]
      rw [sms_tm hW, eg] at mb
      have g6 := Wf_grl hf
      have t1 := tm_bd hW (grl (h 0)) 0 (by omega)
      have t2 := tm_bd hf (grl (h 0)) 0 (by omega)
      have mb : F_M_metBehind 49 (nI n) (mW (mW w 2 (cpR (h 0) (h 2))) 0 (oSk (h 0) S (dep (h 0)))) = some (nI (tm (GON n (oS (h 0) S)) (grl (h 0)) 0), mW w 2 (cpR (h 0) (h 2))) := mb
      rw [if_pos (nI_le (by omega) (by omega)), h2.ob_, Option.bind_some, mb, Option.bind_some]
      dsimp only
      unfold F_M_isAsNow_61 nB
      by_cases c : tm (GON n (oS (h 0) S)) (grl (h 0)) 0 = tm (h 0) (grl (h 0)) 0
      · rw [if_pos (by rw [c]), decide_eq_true c]; rfl
      · rw [if_neg (fun z => c ((nI_eq (by omega) (by omega)).mp z)), decide_eq_false c]; rfl
    | succ k =>
      have hd : d < 8 := by omega
      have hi := M_it h2 hd (e := 5) (x := nI d) (y := 5) (by omega) rfl rfl
      rw [hset_self, show 11 + 6 * d + 5 = 16 + 6 * d by omega, oSk_ne (h 0) S (fun e he => by omega)] at hi
      have hp := fun v => M_put h2 hd (e := 5) (x := nI d) (y := 5) (by omega) rfl rfl v
      have hp2 : ∀ v, F_M_put 49 (nI d) 5 v (mW (mW w 2 (cpR (h 0) (h 2))) 0 (oSk (h 0) S d)) = some (mW (mW w 2 (cpR (h 0) (h 2))) 0 (upd (oSk (h 0) S d) (16 + 6 * d) v)) := fun v => by
        have := hp v
        rw [hset_self, mW_mW, show 11 + 6 * d + 5 = 16 + 6 * d by omega] at this
        exact this
      have es : upd (oSk (h 0) S d) (16 + 6 * d) (h 0 (16 + 6 * d) ||| nI (S.testBit d).toNat) = oSk (h 0) S (d + 1) := by
        rw [oSk_s]
        cases b : S.testBit d with
        | false =>
          rw [if_neg (by decide), show nI (false).toNat = 0 from rfl, Int32.or_zero]
          have : h 0 (16 + 6 * d) = oSk (h 0) S d (16 + 6 * d) := (oSk_ne (h 0) S (fun e he => by omega)).symm
          rw [this, upd_i]
        | true =>
          rw [if_pos rfl]
          congr 1
          rcases out01 hf hd with e | e <;> rw [e] <;> decide
      rw [if_neg (fun z => by rw [nI_leI (by omega) (by omega)] at z; omega), h2.ob_, Option.bind_some, hi, Option.bind_some]
      dsimp only
      rw [h2.ob_, Option.bind_some, sh_bit hS hd, hp2, Option.bind_some, es]
      exact ih k (d + 1) _ (nI_1 d) (by omega) (by omega)
theorem M_isAsNow {w : A_W} (hM : MM w h s) (hf : Wf (h 0)) {n S : Nat} (hn : n ≤ 100) (hS : S < 256) : F_M_isAsNow 49 (nI S) (nI n) (mW w 2 (cpR (h 0) (h 2))) = some (tdI (nB n (h 0) S), mW w 2 (cpR (h 0) (h 2))) := by
  unfold F_M_isAsNow F_M_isAsNow_0
  have h1 := hM.set (a := 2) (by omega) (cpR (h 0) (h 2))
  have e0 : (hset h 2 (cpR (h 0) (h 2))) 0 = h 0 := hset_ne _ _ (by omega)
  have ms := M_sums h1 (by rw [e0]; exact hf) (e := 2) (x := 2) (by omega) rfl
  rw [e0, sms_tm hf] at ms
  have hl := M_asNow_loop hM hf hn hS FU (dep (h 0)) 0 0 rfl (by omega) (by have := (Wf_dep hf).1; unfold FU; omega)
  have hid := h1.mW_id (a := 0) (by omega)
  rw [e0] at hid
  rw [oSk_0, hid] at hl
  rw [h1.ob_, Option.bind_some, ms, Option.bind_some]
  dsimp only
  rw [hl]
def mb (P : Nat → Bool) : Nat → Nat → Option Nat → Option Nat
  | 0, _, b => b
  | k + 1, t, none => mb P k (t + 1) (if P t = true then some t else none)
  | k + 1, t, some c => mb P k (t + 1) (if pcc t < pcc c ∧ P t = true then some t else some c)
def IsB (P : Nat → Bool) (t : Nat) : Option Nat → Prop
  | none => ∀ i, i < t → ¬ P i = true
  | some c => c < t ∧ P c = true ∧ ∀ i, i < t → P i = true → pcc c < pcc i ∨ (pcc c = pcc i ∧ c ≤ i)
theorem mb_best (P : Nat → Bool) : ∀ (k t : Nat) (b : Option Nat), IsB P t b → IsB P (t + k) (mb P k t b) := by
  intro k
  induction k with
  | zero => intro t b h; cases b <;> exact h
  | succ k ih =>
    intro t b h
    rw [show t + (k + 1) = (t + 1) + k by omega]
    cases b with
    | none =>
      rw [mb]
      apply ih
      by_cases c : P t = true
      · rw [if_pos c]
        refine ⟨by omega, c, fun i hi hp => ?_⟩
        by_cases e : i = t
        · subst e; right; exact ⟨rfl, Nat.le_refl _⟩
        · exact absurd hp (h i (by omega))
      · rw [if_neg c]
        intro i hi
        by_cases e : i = t
        · subst e; exact c
        · exact h i (by omega)
    | some v =>
      obtain ⟨h1, h2, h3⟩ := h
      rw [mb]
      apply ih
      by_cases c : pcc t < pcc v ∧ P t = true
      · rw [if_pos c]
        refine ⟨by omega, c.2, fun i hi hp => ?_⟩
        by_cases e : i = t
        · subst e; right; exact ⟨rfl, Nat.le_refl _⟩
        · left
          rcases h3 i (by omega) hp with h4 | h4 <;> omega
      · rw [if_neg c]
        refine ⟨by omega, h2, fun i hi hp => ?_⟩
        by_cases e : i = t
        · subst e
          have : ¬ pcc i < pcc v := fun z => c ⟨z, hp⟩
          omega
        · exact h3 i (by omega) hp
theorem M_give_loop {w : A_W} (hM : MM w h s) (hf : Wf (h 0)) {n : Nat} (hn : n ≤ 100) : ∀ (m k t : Nat) (b : Option Nat) (x y : Int32), x = oI b → y = nI t → t + k = 2 ^ dep (h 0) → k < m → (∀ c, b = some c → c < 256) → F_M_giveOut_25 m 49 (nI n) x y (mW w 2 (cpR (h 0) (h 2))) = match mb (nB n (h 0)) k t b with | some c => some (nI c, mW w 2 (cpR (h 0) (h 2))) | none => some (-1000004, mW (mW w 2 (cpR (h 0) (h 2))) 3 (bmp h 3)) := by
  intro m
  induction m with
  | zero => intro k t b x y _ _ _ hk; exact absurd hk (by omega)
  | succ m ih =>
    intro k t b x y hx hy hk hm hb
    obtain ⟨d8, e3⟩ := Wf_dep hf
    have p1 := p2_le (dep (h 0)) (by omega)
    have h1 := hM.set (a := 2) (by omega) (cpR (h 0) (h 2))
    have e0 : (hset h 2 (cpR (h 0) (h 2))) 0 = h 0 := hset_ne _ _ (by omega)
    have r3 := h1.rd0 (i := 3) (x := 3) (by omega) rfl
    rw [e0, e3] at r3
    rw [F_M_giveOut_25, h1.gr0, Option.bind_some, r3, Option.bind_some, shl_n _ (by omega), hx, hy]
    cases k with
    | zero =>
      rw [if_pos (nI_le (by omega) (by omega)), h1.ob_, Option.bind_some]
      cases b with
      | none =>
        have e := M_orNone_n h1
        rw [bmp_was] at e
        show ((F_M_orNone 49 (-1) _).bind _) = _
        rw [e]; rfl
      | some c =>
        show ((F_M_orNone 49 (nI c) _).bind _) = _
        rw [M_orNone_y h1 (by have := hb c rfl; omega)]; rfl
    | succ k =>
      have ht : t < 256 := by omega
      rw [if_neg (fun z => by rw [nI_leI (by omega) (by omega)] at z; omega)]
      unfold F_M_giveOut_52 F_M_giveOut_57 F_M_giveOut_77 F_M_giveOut_78
      have ha := M_isAsNow hM hf hn ht
      have i := fun b hb => ih k (t + 1) b _ (nI t + 1) rfl (nI_1 t) (by omega) (by omega) hb
      cases b with
      | none =>
        have c1 : oI none < 0 := by decide
        rw [if_pos c1, if_neg (by decide), h1.ob_, Option.bind_some, ha, Option.bind_some, mb]
        dsimp only
        cases hP : nB n (h 0) t with
        | false =>
          rw [if_pos (by rfl), if_neg (by decide)]
          exact i none (fun c hc => by cases hc)
        | true =>
          rw [if_neg (by decide), if_pos rfl]
          exact i (some t) (fun c hc => by cases hc; exact ht)
      | some c =>
        have hc := hb c rfl
        have c1 : ¬ oI (some c) < 0 := nI_pos (by omega)
        have q1 := pcc_le (b := t) (by omega)
        have q2 := pcc_le (b := c) (by omega)
        rw [if_neg c1, M_bits (by omega), Option.bind_some]
        show ((F_M_bits (nI c) _).bind _) = _
        rw [M_bits (by omega), Option.bind_some, mb]
        dsimp only
        by_cases c2 : pcc t < pcc c
        · rw [if_neg (fun z => by rw [nI_leI (by omega) (by omega)] at z; omega), if_neg (by decide), h1.ob_, Option.bind_some, ha, Option.bind_some]
          dsimp only
          cases hP : nB n (h 0) t with
          | false =>
            rw [if_pos (by rfl), if_neg (fun z => absurd z.2 (by decide))]
            exact i (some c) (fun c' h' => by cases h'; exact hc)
          | true =>
            rw [if_neg (by decide), if_pos ⟨c2, rfl⟩]
            exact i (some t) (fun c' h' => by cases h'; exact ht)
        · rw [if_pos (nI_le (by omega) (by omega)), if_pos rfl, if_neg (fun z => c2 z.1)]
          exact i (some c) (fun c' h' => by cases h'; exact hc)
theorem K_in_no (k55 : Nat → Int32 → Int32 → Int32 → A_W → Option (Int32 × A_W)) (hf : Wf (h 0)) {n g z : Nat} (hn : n ≤ 100) (hg : g < 256) (hz : z ≤ 100) : ∀ (m k t : Nat) (w : A_W) (g2 : Nat → Int32) (x : Int32), RelX w h s g2 g3 q → x = nI t → t + k = g + 1 → k < m → (∀ T, t ≤ T → T ≤ g → ¬ (pcc T = z ∧ sb T g ∧ nB n (h 0) T = true)) → ∃ u, F_K_giveOut_69 k55 m 0 (nI n) (nI g) (nI z) x w = k55 0 (nI n) (nI g) (nI z + 1) (rW w 13 u) := by
  intro m
  induction m with
  | zero => intro k t w g2 x _ _ _ hk; exact absurd hk (by omega)
  | succ m ih =>
    intro k t w g2 x R hx hk hm hno
    rw [F_K_giveOut_69, hx]
    cases k with
    | zero =>
      rw [if_pos (nI_lt (by omega) (by omega))]
      exact ⟨g2, by rw [R.2.2.2.1.rW_id]⟩
    | succ k =>
      have ht : t < 256 := by omega
      have q1 := pcc_le (b := t) (by omega)
      rw [if_neg (nI_nlt (by omega) (by omega)), JI_bc (by omega), Option.bind_some]
      dsimp only
      unfold F_K_giveOut_106
      have hn2 : ∀ T, t + 1 ≤ T → T ≤ g → ¬ (pcc T = z ∧ sb T g ∧ nB n (h 0) T = true) := fun T h1 h2 => hno T (by omega) h2
      by_cases c1 : pcc t = z
      · rw [if_pos (by rw [c1]), nd_nI (by omega) (by omega)]
        have nl : nd t g < 256 := Nat.lt_of_le_of_lt Nat.and_le_left ht
        by_cases c2 : nd t g = 0
        · rw [if_pos (by rw [c2]; rfl), R.kob, Option.bind_some]
          obtain ⟨u, hu⟩ := K_nobody R hf hn ht
          have hP : nB n (h 0) t = false := by
            cases e : nB n (h 0) t with
            | false => rfl
            | true => exact absurd ⟨c1, (sb_iff ht).mp c2, e⟩ (hno t (by omega) (by omega))
          rw [hu, Option.bind_some, hP]
          dsimp only
          rw [if_pos (by rfl)]
          obtain ⟨v, hv⟩ := ih k (t + 1) _ _ (nI t + 1) (R.trial u) (nI_1 t) (by omega) (by omega) hn2
          exact ⟨v, by rw [hv, rW_rW]⟩
        · rw [if_neg (nI_ne0 (by omega) (by omega))]
          exact ih k (t + 1) _ _ (nI t + 1) R (nI_1 t) (by omega) (by omega) hn2
      · rw [if_neg (fun y => c1 ((nI_eq (by omega) (by omega)).mp y))]
        exact ih k (t + 1) _ _ (nI t + 1) R (nI_1 t) (by omega) (by omega) hn2
theorem K_in_hit (k55 : Nat → Int32 → Int32 → Int32 → A_W → Option (Int32 × A_W)) (hf : Wf (h 0)) {n g z c : Nat} (hn : n ≤ 100) (hg : g < 256) (hz : z ≤ 100) (hc : c ≤ g) (h1 : pcc c = z) (h2 : sb c g) (h3 : nB n (h 0) c = true) : ∀ (m k t : Nat) (w : A_W) (g2 : Nat → Int32) (x : Int32), RelX w h s g2 g3 q → x = nI t → t + k = c → k < m → (∀ T, t ≤ T → T < c → ¬ (pcc T = z ∧ sb T g ∧ nB n (h 0) T = true)) → ∃ u, F_K_giveOut_69 k55 m 0 (nI n) (nI g) (nI z) x w = some (nI c, rW w 13 u) := by
  intro m
  induction m with
  | zero => intro k t w g2 x _ _ _ hk; exact absurd hk (by omega)
  | succ m ih =>
    intro k t w g2 x R hx hk hm hno
    have ht : t < 256 := by omega
    have q1 := pcc_le (b := t) (by omega)
    have nl : nd t g < 256 := Nat.lt_of_le_of_lt Nat.and_le_left ht
    rw [F_K_giveOut_69, hx, if_neg (nI_nlt (by omega) (by omega)), JI_bc (by omega), Option.bind_some]
    dsimp only
    unfold F_K_giveOut_106
    cases k with
    | zero =>
      have e : t = c := by omega
      subst e
      obtain ⟨u, hu⟩ := K_nobody R hf hn ht
      rw [if_pos (by rw [h1]), nd_nI (by omega) (by omega), if_pos (by rw [(sb_iff ht).mpr h2]; rfl), R.kob, Option.bind_some, hu, Option.bind_some, h3]
      dsimp only
      rw [if_neg (by decide)]
      exact ⟨u, rfl⟩
    | succ k =>
      have hn2 : ∀ T, t + 1 ≤ T → T < c → ¬ (pcc T = z ∧ sb T g ∧ nB n (h 0) T = true) := fun T a b => hno T (by omega) b
      by_cases c1 : pcc t = z
      · rw [if_pos (by rw [c1]), nd_nI (by omega) (by omega)]
        by_cases c2 : nd t g = 0
        · rw [if_pos (by rw [c2]; rfl), R.kob, Option.bind_some]
          obtain ⟨u, hu⟩ := K_nobody R hf hn ht
          have hP : nB n (h 0) t = false := by
            cases e : nB n (h 0) t with
            | false => rfl
            | true => exact absurd ⟨c1, (sb_iff ht).mp c2, e⟩ (hno t (by omega) (by omega))
          rw [hu, Option.bind_some, hP]
          dsimp only
          rw [if_pos (by rfl)]
          obtain ⟨v, hv⟩ := ih k (t + 1) _ _ (nI t + 1) (R.trial u) (nI_1 t) (by omega) (by omega) hn2
          exact ⟨v, by rw [hv, rW_rW]⟩
        · rw [if_neg (nI_ne0 (by omega) (by omega))]
          exact ih k (t + 1) _ _ (nI t + 1) R (nI_1 t) (by omega) (by omega) hn2
      · rw [if_neg (fun y => c1 ((nI_eq (by omega) (by omega)).mp y))]
        exact ih k (t + 1) _ _ (nI t + 1) R (nI_1 t) (by omega) (by omega) hn2
theorem K_out (hf : Wf (h 0)) {n g c : Nat} (hn : n ≤ 100) (hg : g < 256) (hc : c ≤ g) (h2 : sb c g) (h3 : nB n (h 0) c = true) (h4 : pcc c ≤ dep (h 0)) (h5 : ∀ T, T ≤ g → nB n (h 0) T = true → pcc c < pcc T ∨ (pcc c = pcc T ∧ c ≤ T)) : ∀ (m k z : Nat) (w : A_W) (g2 : Nat → Int32) (x : Int32), RelX w h s g2 g3 q → x = nI z → z + k = pcc c → k < m → ∃ u, F_K_giveOut_55 m 0 (nI n) (nI g) x w = some (nI c, rW w 13 u) := by
  intro m
  induction m with
  | zero => intro k z w g2 x _ _ _ hk; exact absurd hk (by omega)
  | succ m ih =>
    intro k z w g2 x R hx hk hm
    obtain ⟨d8, e3⟩ := Wf_dep hf
    rw [F_K_giveOut_55, R.kg0, Option.bind_some, R.2.2.1.gi3, Option.bind_some, e3, hx, if_neg (nI_nlt (by omega) (by omega))]
    cases k with
    | zero =>
      exact K_in_hit _ hf hn hg (by omega) hc (by omega) h2 h3 FU c 0 w g2 0 R rfl (by omega) (by unfold FU; omega) (fun T _ h6 y => by rcases h5 T (by omega) y.2.2 with h7 | h7 <;> omega)
    | succ k =>
      obtain ⟨u, hu⟩ := K_in_no (F_K_giveOut_55 m) hf hn hg (z := z) (by omega) FU (g + 1) 0 w g2 0 R rfl (by omega) (by unfold FU; omega) (fun T _ h6 y => by rcases h5 T h6 y.2.2 with h7 | h7 <;> omega)
      obtain ⟨v, hv⟩ := ih k (z + 1) _ _ (nI z + 1) (R.trial u) (nI_1 z) (by omega) (by omega)
      exact ⟨v, by rw [hu, hv, rW_rW]⟩
end GIV
theorem st22 : St22 Rel := by
  intro a1 w ⟨h, s, g2, g3, q, R, G⟩
  by_cases c1 : 0 ≤ a1 ∧ a1 ≤ 20
  · have c1' := c1
    obtain ⟨n, -, hn, rfl⟩ := btw (m := 0) (n := 20) rfl rfl (by omega) (by omega) c1'
    obtain ⟨d8, e3⟩ := Wf_dep G.1
    have p1 := p2_le (dep (h 0)) (by omega)
    have p0 : 0 < 2 ^ dep (h 0) := Nat.two_pow_pos _
    obtain ⟨g, hg, eg, hb⟩ := hang G.1
    have hg8 : g < 256 := by omega
    have best := mb_best (nB n (h 0)) (2 ^ dep (h 0)) 0 none (fun i hi => by omega)
    rw [Nat.zero_add] at best
    have ml := fun (w : A_W) (M : MM w h s) => M_give_loop M G.1 (n := n) (by omega) FU (2 ^ dep (h 0)) 0 none (-1) 0 rfl rfl (by omega) (by unfold FU; omega) (fun c hc => by cases hc)
    have mpre : ∀ (w : A_W) (M : MM w h s) (r : Int32 × A_W), F_M_giveOut_25 FU 49 (nI n) (-1) 0 (mW w 2 (cpR (h 0) (h 2))) = some r → F_M_giveOut 49 (nI n) w = some r := by
      intro w M r hr
      unfold F_M_giveOut F_M_giveOut_0
      rw [M_in, Option.bind_some]
      dsimp only
      rw [if_neg (bI_y c1), M.ob_, Option.bind_some, M_thinks M, Option.bind_some, hr]
    obtain ⟨u, hu⟩ := K_nobody R G.1 (n := n) (by omega) hg8
    have R1 := R.trial u
    have kpre : F_K_giveOut 0 (nI n) w = if tdI (nB n (h 0) g) = 0 then some ((-1000001) - 3, fW (rW w 13 u) (bmp h 3)) else F_K_giveOut_55 FU 0 (nI n) (nI g) 0 (rW w 13 u) := by
      unfold F_K_giveOut F_K_giveOut_0
      rw [K_within, Option.bind_some]
      dsimp only
      rw [if_neg (bI_y c1), R.kg0, Option.bind_some, R.2.2.1.gi3, Option.bind_some, Option.bind_some, R.2.2.1.ob_, Option.bind_some, R_outSet R.2.2.1 G.1, Option.bind_some]
      dsimp only
      rw [R.kob, Option.bind_some, eg, hu, Option.bind_some]
      dsimp only
      rw [R1.kob, Option.bind_some, K_finding R1 (i := 3) (x := 3) (by omega) rfl]
      rfl
    cases hP : nB n (h 0) g with
    | false =>
      have hnone : mb (nB n (h 0)) (2 ^ dep (h 0)) 0 none = none := by
        cases e : mb (nB n (h 0)) (2 ^ dep (h 0)) 0 none with
        | none => rfl
        | some c =>
          rw [e] at best
          have := nB_up G.1 (n := n) (S := c) (T := g) (fun i hi hs => by
            by_cases c0 : h 0 (16 + 6 * i) = 0
            · left; rw [hb i]; exact decide_eq_true ⟨hi, c0⟩
            · right; exact c0) best.2.1
          rw [hP] at this; exact absurd this (by decide)
      refine SP_trf R G (i := 3) (t := u) (r1 := (-1000001) - 3) (r2 := (-1000004)) ?_ (fun M => ?_) (by decide)
      · rw [kpre, hP, if_pos (by rfl)]
      · have m1 := ml _ M
        rw [hnone] at m1
        exact mpre _ M _ m1
    | true =>
      have hsome : ∃ c, mb (nB n (h 0)) (2 ^ dep (h 0)) 0 none = some c := by
        cases e : mb (nB n (h 0)) (2 ^ dep (h 0)) 0 none with
        | none => rw [e] at best; exact absurd hP (best g hg)
        | some c => exact ⟨c, rfl⟩
      obtain ⟨c, hc⟩ := hsome
      rw [hc] at best
      obtain ⟨b1, b2, b3⟩ := best
      have c8 : c < 256 := by omega
      have hsb : sb c g := by
        by_cases e : sb c g
        · exact e
        · exfalso
          have l1 := pc_lt c8 e
          have l2 : (c &&& g) ≤ c := Nat.and_le_left
          have hP2 := nB_up G.1 (n := n) (S := c) (T := c &&& g) (fun i hi hs => by
            by_cases c0 : h 0 (16 + 6 * i) = 0
            · left; rw [Nat.testBit_and, hs, hb i, decide_eq_true (show i < dep (h 0) ∧ h 0 (16 + 6 * i) = 0 from ⟨hi, c0⟩)]; rfl
            · right; exact c0) b2
          have l3 := b3 (c &&& g) (by omega) hP2
          rw [pcc_s c8, pcc_s (by omega)] at l3
          omega
      have cg := sb_le hsb
      obtain ⟨v, hv⟩ := K_out G.1 (n := n) (by omega) hg8 cg hsb b2 (by rw [pcc_s c8]; exact pc_dep (dep (h 0)) (by omega) c b1) (fun T hT hp => b3 T (by omega) hp) FU (pcc c) 0 _ _ 0 R1 rfl (by omega) (by have := pcc_le (b := c) (by omega); unfold FU; omega)
      refine SP_tr R G (t := v) (r1 := nI c) (r2 := nI c) ?_ (fun M => ?_) rfl
      · rw [kpre, hP, if_neg (by decide), hv, rW_rW]
      · have m1 := ml _ M
        rw [hc] at m1
        exact mpre _ M _ m1
  · refine SP_fd R G (i := 0) (r1 := (-1000001) - 0) (r2 := (-1000001)) ?_ (fun M => ?_) (by decide)
    · unfold F_K_giveOut F_K_giveOut_0
      simp only [K_within, K_isHanger, K_isKind, K_isSpot, K_isSheet, R_hasDeposit R.2.2.1, R_hasGirl R.2.2.1, R.kg0, R.kg1, R.kob, R.2.2.1.ob_, Option.bind_some, bI_0]
      rw [if_pos c1]
      simp only [K_within, K_isHanger, K_isKind, K_isSpot, K_isSheet, R_hasDeposit R.2.2.1, R_hasGirl R.2.2.1, R.kg0, R.kg1, R.kob, R.2.2.1.ob_, Option.bind_some, bI_0, K_finding R (i := 0) (x := 0) (by omega) rfl]
    · unfold F_M_giveOut F_M_giveOut_0
      simp only [M_in, M_isHanger, M_isPlace, M_isDeposit M, M_isGirl M, M.ob_, M.gr0, Option.bind_some, bI_0]
      rw [if_pos c1]
      simp only [M_in, M_isHanger, M_isPlace, M_isDeposit M, M_isGirl M, M.ob_, M.gr0, Option.bind_some, bI_0, M_finds M (i := 0) (v := (-1000001)) (by omega) (by decide)]
