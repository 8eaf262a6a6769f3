/-! HOW MANY ARE IN A SET -/
theorem and_nI {a b : Nat} (ha : a < 2 ^ 32) (hb : b < 2 ^ 32) : nI a &&& nI b = nI (a &&& b) := by
  apply Int32.toBitVec_inj.mp
  apply BitVec.eq_of_toNat_eq
  rw [Int32.toBitVec_and, BitVec.toNat_and, pk_tn ha, pk_tn hb, pk_tn (Nat.lt_of_le_of_lt Nat.and_le_left ha)]
theorem or_nI {a b : Nat} (ha : a < 2 ^ 32) (hb : b < 2 ^ 32) : nI a ||| nI b = nI (a ||| b) := by
  apply Int32.toBitVec_inj.mp
  apply BitVec.eq_of_toNat_eq
  rw [Int32.toBitVec_or, BitVec.toNat_or, pk_tn ha, pk_tn hb, pk_tn (Nat.or_lt_two_pow ha hb)]
theorem land_s {a m : Nat} (b n : Nat) (ha : a < 256) (hm : m < 256) : (a + 256 * b) &&& (m + 256 * n) = (a &&& m) + 256 * (b &&& n) := by
  have hx : a &&& m < 256 := Nat.lt_of_le_of_lt Nat.and_le_left ha
  apply Nat.eq_of_testBit_eq
  intro i
  rw [Nat.testBit_and, show a + 256 * b = 2 ^ 8 * b + a by omega, show m + 256 * n = 2 ^ 8 * n + m by omega, show (a &&& m) + 256 * (b &&& n) = 2 ^ 8 * (b &&& n) + (a &&& m) by omega, Nat.testBit_two_pow_mul_add _ (show a < 2 ^ 8 from ha), Nat.testBit_two_pow_mul_add _ (show m < 2 ^ 8 from hm), Nat.testBit_two_pow_mul_add _ (show a &&& m < 2 ^ 8 from hx)]
  split <;> rw [Nat.testBit_and]
def pc (v : Nat) : Nat := v % 2 + v / 2 % 2 + v / 4 % 2 + v / 8 % 2 + v / 16 % 2 + v / 32 % 2 + v / 64 % 2 + v / 128 % 2
def pcc (b : Nat) : Nat := pc (b % 256) + pc (b / 256)
def q1 (v : Nat) : Nat := v - ((v / 2) &&& 85)
def q2 (v : Nat) : Nat := (v &&& 51) + ((v / 4) &&& 51)
def q3 (v : Nat) : Nat := (v + v / 16) &&& 15
theorem q_all : ∀ v, v < 256 → q3 (q2 (q1 v)) = pc v ∧ q1 v < 256 ∧ q2 (q1 v) ≤ 68 ∧ q2 (q1 v) % 16 ≤ 4 ∧ pc v ≤ 8 ∧ (v / 2 &&& 5592405) = (v / 2 &&& 85) ∧ (v &&& 3355443) = (v &&& 51) ∧ (v / 4 &&& 3355443) = (v / 4 &&& 51) := by decide +kernel
theorem q_f1 : ∀ v, v < 256 → ∀ c, c < 2 → ((v / 2 + 128 * c) &&& 85) = (v / 2 &&& 85) := by decide +kernel
theorem q_f2 : ∀ v, v < 256 → ∀ c, c < 4 → ((v / 4 + 64 * c) &&& 51) = (v / 4 &&& 51) := by decide +kernel
theorem q_f3 : ∀ v, v < 69 → (∀ c, c < 5 → ((v + v / 16 + 16 * c) &&& 15) = ((v + v / 16) &&& 15)) ∧ ((v + v / 16) &&& 986895) = ((v + v / 16) &&& 15) := by decide +kernel
def B1 (x : Nat) : Nat := x - ((x / 2) &&& 1431655765)
def B2 (x : Nat) : Nat := (x &&& 858993459) + ((x / 4) &&& 858993459)
def B3 (x : Nat) : Nat := (x + x / 16) &&& 252645135
theorem B1_s {l u : Nat} (hl : l < 256) (hu : u < 256) : B1 (l + 256 * u) = q1 l + 256 * q1 u := by
  unfold B1 q1
  have e : (l + 256 * u) / 2 = (l / 2 + 128 * (u % 2)) + 256 * (u / 2) := by omega
  have p1 : (l / 2 &&& 85) ≤ l / 2 := Nat.and_le_left
  have p2 : (u / 2 &&& 85) ≤ u / 2 := Nat.and_le_left
  rw [e, show 1431655765 = 85 + 256 * 5592405 by decide, land_s _ _ (by omega) (by decide), q_f1 l hl _ (Nat.mod_lt _ (by decide)), (q_all u hu).2.2.2.2.2.1]
  omega
theorem B2_s {l u : Nat} (hl : l < 256) (hu : u < 256) : B2 (l + 256 * u) = q2 l + 256 * q2 u := by
  unfold B2 q2
  have e : (l + 256 * u) / 4 = (l / 4 + 64 * (u % 4)) + 256 * (u / 4) := by omega
  rw [e, show 858993459 = 51 + 256 * 3355443 by decide, land_s _ _ hl (by decide), land_s _ _ (by omega) (by decide), q_f2 l hl _ (Nat.mod_lt _ (by decide)), (q_all u hu).2.2.2.2.2.2.1, (q_all u hu).2.2.2.2.2.2.2]
  omega
theorem B3_s {l u : Nat} (hl : l < 69) (hu : u < 69) (hm : u % 16 < 5) : B3 (l + 256 * u) = q3 l + 256 * q3 u := by
  unfold B3 q3
  have e : l + 256 * u + (l + 256 * u) / 16 = (l + l / 16 + 16 * (u % 16)) + 256 * (u + u / 16) := by omega
  rw [e, show 252645135 = 15 + 256 * 986895 by decide, land_s _ _ (by omega) (by decide), (q_f3 l hl).1 _ hm, (q_f3 u hu).2]
theorem B_all {b : Nat} (hb : b < 65536) : B3 (B2 (B1 b)) = pc (b % 256) + 256 * pc (b / 256) ∧ B1 b < 65536 ∧ B2 (B1 b) < 65536 := by
  have hl : b % 256 < 256 := Nat.mod_lt _ (by decide)
  have hu : b / 256 < 256 := by omega
  obtain ⟨l1, l2, l3, l4, -⟩ := q_all _ hl
  obtain ⟨u1, u2, u3, u4, -⟩ := q_all _ hu
  have e1 : B1 b = q1 (b % 256) + 256 * q1 (b / 256) := by rw [← B1_s hl hu]; congr 1; omega
  have e2 : B2 (B1 b) = q2 (q1 (b % 256)) + 256 * q2 (q1 (b / 256)) := by rw [e1, B2_s l2 u2]
  refine ⟨?_, by omega, by omega⟩
  rw [e2, B3_s (by omega) (by omega) (by omega), l1, u1]
theorem t_1 {b : Nat} (hb : b < 65536) : nI b - ((Int32.toUInt32 (nI b) >>> (Int32.toUInt32 1 &&& Int32.toUInt32 31)).toInt32 &&& 1431655765) = nI (B1 b) := by
  have p1 : (b / 2 ^ 1 &&& 1431655765) ≤ b / 2 ^ 1 := Nat.and_le_left
  rw [pk_ushrN (n := b) (by omega) 1 1 (by decide), show (1431655765 : Int32) = nI 1431655765 from rfl, and_nI (by omega) (by decide)]
  exact pk_sub (by omega)
theorem t_2 {b : Nat} (hb : b < 65536) : (nI b &&& 858993459) + ((Int32.toUInt32 (nI b) >>> (Int32.toUInt32 2 &&& Int32.toUInt32 31)).toInt32 &&& 858993459) = nI (B2 b) := by
  rw [pk_ushrN (n := b) (by omega) 2 2 (by decide), show (858993459 : Int32) = nI 858993459 from rfl, and_nI (by omega) (by decide), and_nI (by omega) (by decide), nI_add]
  rfl
theorem t_3 {b : Nat} (hb : b < 65536) : (nI b + (Int32.toUInt32 (nI b) >>> (Int32.toUInt32 4 &&& Int32.toUInt32 31)).toInt32) &&& 252645135 = nI (B3 b) := by
  rw [pk_ushrN (n := b) (by omega) 4 4 (by decide), nI_add, show (252645135 : Int32) = nI 252645135 from rfl, and_nI (by omega) (by decide)]
  rfl
theorem pc_le {b : Nat} (hb : b < 65536) : pc (b % 256) ≤ 8 ∧ pc (b / 256) ≤ 8 := ⟨(q_all _ (Nat.mod_lt _ (by decide))).2.2.2.2.1, (q_all _ (by omega)).2.2.2.2.1⟩
theorem JI_bc {b : Nat} (hb : b < 65536) (w : A_W) : F_JI_bitCount (nI b) w = some (nI (pcc b), w) := by
  unfold F_JI_bitCount F_JI_bitCount_0
  obtain ⟨e3, h1, h2⟩ := B_all hb
  obtain ⟨p1, p2⟩ := pc_le hb
  rw [t_1 hb, t_2 h1, t_3 h2, e3]
  rw [pk_ushrN (n := pc (b % 256) + 256 * pc (b / 256)) (by omega) 8 8 (by decide), nI_add]
  rw [pk_ushrN (n := pc (b % 256) + 256 * pc (b / 256) + (pc (b % 256) + 256 * pc (b / 256)) / 2 ^ 8) (by omega) 16 16 (by decide), nI_add, pk_andN (by omega) (m := 63) 6 (by decide)]
  congr 3
  unfold pcc
  have e8 : (2 : Nat) ^ 8 = 256 := rfl
  have e16 : (2 : Nat) ^ 16 = 65536 := rfl
  have e6 : (2 : Nat) ^ 6 = 64 := rfl
  rw [e8, e16, e6, show (pc (b % 256) + 256 * pc (b / 256)) / 256 = pc (b / 256) by omega, show (pc (b % 256) + 256 * pc (b / 256) + pc (b / 256)) / 65536 = 0 by omega, show pc (b % 256) + 256 * pc (b / 256) + pc (b / 256) + 0 = (pc (b % 256) + pc (b / 256)) + 64 * (4 * pc (b / 256)) by omega, Nat.add_mul_mod_self_left, Nat.mod_eq_of_lt (by omega)]
theorem pc_dn : ∀ v, v < 256 → 0 < v → pc (v &&& (v - 1)) + 1 = pc v := by decide +kernel
theorem pcc_dn {b : Nat} (hb : b < 65536) (h0 : 0 < b) : pcc (b &&& (b - 1)) + 1 = pcc b ∧ (b &&& (b - 1)) < 65536 := by
  refine ⟨?_, Nat.lt_of_le_of_lt Nat.and_le_left hb⟩
  unfold pcc
  by_cases c : 0 < b % 256
  · have e1 : b = b % 256 + 256 * (b / 256) := by omega
    have e2 : b - 1 = (b % 256 - 1) + 256 * (b / 256) := by omega
    have e : b &&& (b - 1) = (b % 256 &&& (b % 256 - 1)) + 256 * (b / 256) := by
      conv => lhs; rw [e2]; lhs; rw [e1]
      rw [land_s _ _ (by omega) (by omega), Nat.and_self]
    have hl : (b % 256 &&& (b % 256 - 1)) < 256 := Nat.lt_of_le_of_lt Nat.and_le_left (by omega)
    have d := pc_dn (b % 256) (by omega) c
    have e3 : (b &&& (b - 1)) % 256 = (b % 256 &&& (b % 256 - 1)) := by rw [e]; omega
    have e4 : (b &&& (b - 1)) / 256 = b / 256 := by rw [e]; omega
    rw [e3, e4]; omega
  · have e1 : b = 0 + 256 * (b / 256) := by omega
    have e2 : b - 1 = 255 + 256 * (b / 256 - 1) := by omega
    have e : b &&& (b - 1) = 256 * (b / 256 &&& (b / 256 - 1)) := by
      conv => lhs; rw [e2]; lhs; rw [e1]
      rw [land_s _ _ (by omega) (by omega), Nat.zero_and, Nat.zero_add]
    have d := pc_dn (b / 256) (by omega) (by omega)
    have e3 : (b &&& (b - 1)) % 256 = b % 256 := by rw [e]; omega
    have e4 : (b &&& (b - 1)) / 256 = (b / 256 &&& (b / 256 - 1)) := by rw [e]; omega
    rw [e3, e4]; omega
theorem M_bits_loop : ∀ (m n b a : Nat) (w : A_W), b < 65536 → pcc b = n → n < m → F_M_bits_4 m (nI a) (nI b) w = some (nI (a + n), w) := by
  intro m
  induction m with
  | zero => intro n b a w _ _ hk; exact absurd hk (by omega)
  | succ m ih =>
    intro n b a w hb hn hm
    rw [F_M_bits_4]
    by_cases c : b = 0
    · subst c
      have : n = 0 := by rw [← hn]; rfl
      subst this
      rw [if_pos (show nI 0 = 0 from rfl)]
      rfl
    · rw [if_neg (nI_ne0 (by omega) (by omega))]
      obtain ⟨p1, p2⟩ := pcc_dn hb (by omega)
      have e1 : nI b - 1 = nI (b - 1) := pk_sub (b := 1) (by omega)
      rw [e1, and_nI (by omega) (by omega), nI_1, ih (n - 1) _ (a + 1) w p2 (by omega) (by omega), show a + 1 + (n - 1) = a + n by omega]
theorem pcc_le {b : Nat} (hb : b < 65536) : pcc b ≤ 16 := by have := pc_le hb; unfold pcc; omega
theorem M_bits {b : Nat} (hb : b < 65536) (w : A_W) : F_M_bits (nI b) w = some (nI (pcc b), w) := by
  unfold F_M_bits F_M_bits_0
  have h1 := M_bits_loop FU (pcc b) b 0 w hb rfl (by have := pcc_le hb; unfold FU; omega)
  rw [Nat.zero_add] at h1
  exact h1
theorem shl_n : ∀ d, d < 16 → (1 : Int32) <<< (nI d &&& 31) = nI (2 ^ d) := by decide +kernel
theorem dkN_b (f : Nat → Int32) : ∀ (k d b : Nat), d + k ≤ 16 → b < 65536 → ∃ c, c < 65536 ∧ dkN f k d (nI b) = nI c := by
  intro k
  induction k with
  | zero => intro d b _ hb; exact ⟨b, hb, rfl⟩
  | succ k ih =>
    intro d b hd hb
    rw [dkN]
    have h2 : (2 : Nat) ^ d < 2 ^ 16 := Nat.pow_lt_pow_right (by omega) (by omega)
    have h3 : (b ||| 2 ^ d) < 2 ^ 16 := Nat.or_lt_two_pow hb h2
    have e := shl_n d (by omega)
    first
      | (split
         · rw [e, or_nI (by omega) (by omega)]; exact ih (d + 1) _ (by omega) h3
         · exact ih (d + 1) _ (by omega) hb)
      | (split
         · exact ih (d + 1) _ (by omega) hb
         · rw [e, or_nI (by omega) (by omega)]; exact ih (d + 1) _ (by omega) h3)
theorem drk_b (f : Nat → Int32) : ∃ c, c < 65536 ∧ drk f = nI c := dkN_b f 16 0 0 (by omega) (by omega)
/-! ODDS -/
def hv : Nat → Nat → Nat × Nat
  | 0, a => (a, 1)
  | k + 1, a => if a % 2 = 0 then hv k (a / 2) else (a, 2 ^ (k + 1))
theorem hv_le : ∀ k, k < 5 → ∀ a, a < 17 → (hv k a).1 ≤ 16 ∧ (hv k a).2 ≤ 16 := by decide +kernel
theorem K_hv {x1 x2 : Int32} {w : A_W} : ∀ (k m a : Nat), k ≤ 4 → a ≤ 16 → k < m → F_K_odds_47 m x1 x2 (nI a) (nI (2 ^ k)) (nI (4 - k)) w = F_K_odds_75 x1 x2 (nI (hv k a).1) (nI (hv k a).2) w := by
  intro k
  induction k with
  | zero =>
    intro m a _ ha hm
    obtain ⟨m, rfl⟩ : ∃ m', m = m' + 1 := ⟨m - 1, by omega⟩
    rw [F_K_odds_47, if_pos (by decide)]
    rfl
  | succ k ih =>
    intro m a hk ha hm
    obtain ⟨m, rfl⟩ : ∃ m', m = m' + 1 := ⟨m - 1, by omega⟩
    rw [F_K_odds_47, if_neg (show ¬ (4 : Int32) ≤ nI (4 - (k + 1)) from nI_ge (b := 4) (by omega) (by omega)), hv]
    have e1 : jrem (nI a) 2 = nI (a % 2) := jrem_nI (b := 2) (by omega) (by omega) (by omega)
    have e2 : nI a / 2 = nI (a / 2) := pk_div (d := 2) (by omega) (by omega) (by omega)
    have e3 : ∀ k, k < 4 → nI (2 ^ (k + 1)) / 2 = nI (2 ^ k) := by decide +kernel
    have e4 : nI (4 - (k + 1)) + 1 = nI (4 - k) := by rw [nI_1]; congr 1; omega
    rw [e1, e2, e3 k (by omega), e4]
    by_cases c : a % 2 = 0
    · rw [if_pos c, if_pos (by rw [c]; rfl)]
      exact ih m _ (by omega) (by omega) (by omega)
    · rw [if_neg c, if_neg (nI_ne0 (by omega) (by omega))]
theorem M_hv {x1 x2 : Int32} {w : A_W} : ∀ (k m a : Nat), k ≤ 4 → a ≤ 16 → k < m → F_M_odds_44 m x1 x2 (lN a) (lN (2 ^ k)) w = F_M_odds_78 x1 x2 (lN (hv k a).1) (lN (hv k a).2) w := by
  have f1 : ∀ a, a < 17 → (lg_cmp (jreml (lN a) 2) 0 = 0 ↔ a % 2 = 0) := by decide +kernel
  have f2 : ∀ a, a < 17 → lN a / 2 = lN (a / 2) := by decide +kernel
  have f3 : ∀ k, k < 4 → lN (2 ^ (k + 1)) / 2 = lN (2 ^ k) := by decide +kernel
  have f4 : ∀ k, k < 4 → ¬ lg_cmp (lN (2 ^ (k + 1))) 1 ≤ 0 := by decide +kernel
  intro k
  induction k with
  | zero =>
    intro m a _ ha hm
    obtain ⟨m, rfl⟩ : ∃ m', m = m' + 1 := ⟨m - 1, by omega⟩
    rw [F_M_odds_44]
    split
    · rw [if_pos (by decide)]; rfl
    · rfl
  | succ k ih =>
    intro m a hk ha hm
    obtain ⟨m, rfl⟩ : ∃ m', m = m' + 1 := ⟨m - 1, by omega⟩
    rw [F_M_odds_44, hv]
    by_cases c : a % 2 = 0
    · rw [if_pos c, if_pos ((f1 a (by omega)).mpr c), if_neg (f4 k (by omega)), f2 a (by omega), f3 k (by omega)]
      exact ih m _ (by omega) (by omega) (by omega)
    · rw [if_neg c, if_neg (fun z => c ((f1 a (by omega)).mp z))]
def pwN (b : Int64) : Nat → Int64 → Int64
  | 0, a => a
  | k + 1, a => pwN b k (a * b)
theorem K_pw_loop {x0 : Int32} {N : Nat} (hN : N ≤ 100) {w : A_W} : ∀ (m k d : Nat) (a : Int64) (x : Int32), x = nI d → d + k = N → k < m → F_K_power_5 m x0 (nI N) a x w = some (pwN x0.toInt64 k a, w) := by
  intro m
  induction m with
  | zero => intro k d a x _ _ hk; exact absurd hk (by omega)
  | succ m ih =>
    intro k d a x hx hk hm
    rw [F_K_power_5, hx]
    cases k with
    | zero => rw [if_pos (nI_le (by omega) (by omega))]; rfl
    | succ k =>
      rw [if_neg (fun z => by rw [nI_leI (by omega) (by omega)] at z; omega)]
      exact ih k (d + 1) _ _ (nI_1 d) (by omega) (by omega)
theorem M_pw_loop {x2 : Int32} {u v : Int64} {N : Nat} (hN : N ≤ 100) {w : A_W} : ∀ (m k d : Nat) (a : Int64) (x : Int32), x = nI d → d + k = N → k < m → F_M_odds_84 m (nI N) x2 u v a x w = some (pwN (if x2 = 0 then u else v) k a, w) := by
  intro m
  induction m with
  | zero => intro k d a x _ _ hk; exact absurd hk (by omega)
  | succ m ih =>
    intro k d a x hx hk hm
    rw [F_M_odds_84, hx]
    unfold F_M_odds_102
    cases k with
    | zero => rw [if_pos (nI_le (by omega) (by omega))]; rfl
    | succ k =>
      rw [if_neg (fun z => by rw [nI_leI (by omega) (by omega)] at z; omega), pwN]
      by_cases c : x2 = 0
      · rw [if_pos c, ih k (d + 1) _ _ (nI_1 d) (by omega) (by omega), if_pos c]
      · rw [if_neg c, ih k (d + 1) _ _ (nI_1 d) (by omega) (by omega), if_neg c]
theorem K_power {n : Nat} (hn : n ≤ 100) (x0 : Int32) (w : A_W) : F_K_power x0 (nI n) w = some (pwN x0.toInt64 n 1, w) := by
  unfold F_K_power F_K_power_0
  have h1 := K_pw_loop (x0 := x0) (N := n) hn (w := w) FU n 0 1 0 rfl (by omega) (by unfold FU; omega)
  rw [h1]
theorem M_power {n : Nat} (hn : n ≤ 100) (x2 : Int32) (u v : Int64) (w : A_W) : F_M_odds_78 (nI n) x2 u v w = some (pwN (if x2 = 0 then u else v) n 1, w) := by
  unfold F_M_odds_78
  have h1 := M_pw_loop (x2 := x2) (u := u) (v := v) (N := n) hn (w := w) FU n 0 1 0 rfl (by omega) (by unfold FU; omega)
  rw [h1]
theorem n16 : nI (2 ^ 4) = 16 := rfl
theorem n0 : nI (4 - 4) = 0 := rfl
theorem l16 : lN (2 ^ 4) = 16 := rfl
theorem K_hv4 {x1 x2 : Int32} {w : A_W} {a : Nat} (ha : a ≤ 16) : F_K_odds_47 FU x1 x2 (nI a) 16 0 w = F_K_odds_75 x1 x2 (nI (hv 4 a).1) (nI (hv 4 a).2) w := by
  have h1 := K_hv (x1 := x1) (x2 := x2) (w := w) 4 FU a (by omega) ha (by unfold FU; omega)
  rw [n16, n0] at h1
  rw [h1]
theorem M_hv4 {x1 x2 : Int32} {w : A_W} {a : Nat} (ha : a ≤ 16) : F_M_odds_44 FU x1 x2 (lN a) 16 w = F_M_odds_78 x1 x2 (lN (hv 4 a).1) (lN (hv 4 a).2) w := by
  have h1 := M_hv (x1 := x1) (x2 := x2) (w := w) 4 FU a (by omega) ha (by unfold FU; omega)
  rw [l16] at h1
  rw [h1]
def odd (b n : Nat) (x2 : Int32) : Int64 := pwN (if x2 = 0 then lN (hv 4 (16 - pcc b)).1 else lN (hv 4 (16 - pcc b)).2) n 1
theorem s16 {b : Nat} (hb : b < 65536) : (16 : Int32) - nI (pcc b) = nI (16 - pcc b) := pk_sub (a := 16) (pcc_le hb)
theorem K_odds_ok {w : A_W} {g : Nat → Int32} (R : RC w 1 g) (hf : Wf g) {n b : Nat} (hn : n ≤ 100) (hb : b < 65536) (eb : drk g = nI b) (x2 : Int32) : ((F_R_darkHangers 1 w).bind fun p6 => (F_JI_bitCount p6.1 p6.2).bind fun p8 => F_K_odds_47 FU (nI n) x2 (16 - p8.1) 16 0 p8.2) = some (odd b n x2, w) := by
  have hl := hv_le 4 (by omega) (16 - pcc b) (by omega)
  rw [R_darkHangers R hf, Option.bind_some, eb, JI_bc hb, Option.bind_some]
  dsimp only
  rw [s16 hb, K_hv4 (by omega)]
  unfold F_K_odds_75 F_K_odds_85 odd
  rw [K_power hn, K_power hn, Option.bind_some, Option.bind_some, nI_l (by omega), nI_l (by omega)]
  split <;> rfl
theorem M_odds_ok {w : A_W} {h : Nat → Nat → Int32} {s : Nat → Int32} (M : MM w h s) (hf : Wf (h 0)) {n b : Nat} (hn : n ≤ 100) (hb : b < 65536) (eb : drk (h 0) = nI b) (x2 : Int32) : ((F_M_darkOnes 49 w).bind fun p5 => (F_M_bits p5.1 p5.2).bind fun p7 => F_M_odds_44 FU (nI n) x2 (Int32.toInt64 (16 - p7.1)) 16 p7.2) = some (odd b n x2, w) := by
  rw [M_darkOnes M hf, Option.bind_some, eb, M_bits hb, Option.bind_some]
  dsimp only
  rw [s16 hb, nI_l (by omega), M_hv4 (by omega), M_power hn]
  rfl
theorem bI_y {p : Prop} [Decidable p] (h : p) : ¬ bI p = 0 := by rw [bI_0]; exact fun z => z h
theorem st26 : St26 Rel := by
  intro a1 a2 w ⟨h, s, g2, g3, q, R, G⟩
  by_cases c1 : 0 ≤ a1 ∧ a1 ≤ 15
  · by_cases c2 : 0 ≤ a2 ∧ a2 ≤ 1
    · have c1' := c1
      obtain ⟨n, -, hn, rfl⟩ := btw (m := 0) (n := 15) rfl rfl (by omega) (by omega) c1'
      obtain ⟨b, hb, eb⟩ := drk_b (h 0)
      refine SP_id R G (r1 := odd b n a2) (r2 := odd b n a2) ?_ ?_ rfl
      · have h1 := K_odds_ok R.2.2.1 G.1 (n := n) (by omega) hb eb a2
        unfold F_K_odds F_K_odds_0
        rw [K_within, Option.bind_some]
        dsimp only
        rw [if_neg (bI_y c1), K_within, Option.bind_some]
        dsimp only
        rw [if_neg (bI_y c2), R.kg0, Option.bind_some, R.2.2.1.ob_, Option.bind_some]
        exact h1
      · have M := R.1
        have h1 := M_odds_ok M G.1 (n := n) (by omega) hb eb a2
        unfold F_M_odds F_M_odds_0
        rw [M_in, Option.bind_some]
        dsimp only
        rw [if_neg (bI_y c1), M_in, Option.bind_some]
        dsimp only
        rw [if_neg (bI_y c2), M.ob_, Option.bind_some]
        exact h1
    · refine SP_fd R G (i := 0) (r1 := Int32.toInt64 ((-1000001) - 0)) (r2 := Int32.toInt64 (-1000001)) ?_ (fun M => ?_) (congrArg Int32.toInt64 (by decide))
      · unfold F_K_odds F_K_odds_0 F_K_odds_19
        simp only [K_within, K_isHanger, K_isKind, K_isSpot, K_isSheet, R_hasDeposit R.2.2.1, R_hasGirl R.2.2.1, R.kg0, R.kg1, R.kob, R.2.2.1.ob_, Option.bind_some, bI_0]
        rw [if_neg (fun z => z c1), if_pos c2]
        simp only [K_within, K_isHanger, K_isKind, K_isSpot, K_isSheet, R_hasDeposit R.2.2.1, R_hasGirl R.2.2.1, R.kg0, R.kg1, R.kob, R.2.2.1.ob_, Option.bind_some, bI_0, K_finding R (i := 0) (x := 0) (by omega) rfl]
      · unfold F_M_odds F_M_odds_0 F_M_odds_19
        simp only [M_in, M_isHanger, M_isPlace, M_isDeposit M, M_isGirl M, M.ob_, M.gr0, Option.bind_some, bI_0]
        rw [if_neg (fun z => z c1), if_pos c2]
        simp only [M_in, M_isHanger, M_isPlace, M_isDeposit M, M_isGirl M, M.ob_, M.gr0, Option.bind_some, bI_0, M_finds M (i := 0) (v := (-1000001)) (by omega) (by decide)]
  · refine SP_fd R G (i := 0) (r1 := Int32.toInt64 ((-1000001) - 0)) (r2 := Int32.toInt64 (-1000001)) ?_ (fun M => ?_) (congrArg Int32.toInt64 (by decide))
    · unfold F_K_odds F_K_odds_0 F_K_odds_19
      simp only [K_within, K_isHanger, K_isKind, K_isSpot, K_isSheet, R_hasDeposit R.2.2.1, R_hasGirl R.2.2.1, R.kg0, R.kg1, R.kob, R.2.2.1.ob_, Option.bind_some, bI_0]
      rw [if_pos c1]
      simp only [K_within, K_isHanger, K_isKind, K_isSpot, K_isSheet, R_hasDeposit R.2.2.1, R_hasGirl R.2.2.1, R.kg0, R.kg1, R.kob, R.2.2.1.ob_, Option.bind_some, bI_0, K_finding R (i := 0) (x := 0) (by omega) rfl]
    · unfold F_M_odds F_M_odds_0 F_M_odds_19
      simp only [M_in, M_isHanger, M_isPlace, M_isDeposit M, M_isGirl M, M.ob_, M.gr0, Option.bind_some, bI_0]
      rw [if_pos c1]
      simp only [M_in, M_isHanger, M_isPlace, M_isDeposit M, M_isGirl M, M.ob_, M.gr0, Option.bind_some, bI_0, M_finds M (i := 0) (v := (-1000001)) (by omega) (by decide)]
