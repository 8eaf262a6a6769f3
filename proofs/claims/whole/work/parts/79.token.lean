/-! TOKENS OF A TEXT -/
def NM : List (List Nat) := [[99, 111, 97, 116, 0, 0, 0, 0], [101, 118, 101, 110, 105, 110, 103, 0], [104, 97, 116, 0, 0, 0, 0, 0], [100, 117, 115, 107, 0, 0, 0, 0], [109, 111, 111, 110, 0, 0, 0, 0], [117, 109, 98, 114, 101, 108, 108, 97], [116, 111, 112, 112, 101, 114, 0, 0], [111, 110, 0, 0, 0, 0, 0, 0], [115, 116, 117, 98, 0, 0, 0, 0], [107, 101, 112, 116, 0, 0, 0, 0], [119, 111, 114, 110, 0, 0, 0, 0], [111, 117, 116, 0, 0, 0, 0, 0], [103, 105, 114, 108, 0, 0, 0, 0], [104, 111, 112, 101, 0, 0, 0, 0], [115, 116, 97, 110, 100, 0, 0, 0]]
def nmT (k i : Nat) : Nat := (NM.getD k []).getD i 0
def wl (k : Nat) : Nat := ([4, 7, 3, 4, 4, 8, 6, 2, 4, 4, 4, 3, 4, 4, 5] : List Nat).getD k 0
def sg (j : Nat) : Nat := ([12, 13, 14, 0, 1, 2, 3, 4, 5, 6, 7, 8, 9, 10, 11] : List Nat).getD j 0
theorem NM_rs : ∀ k, k < 15 → ∀ i, i < 8 → rs 4 (nI (8 * k + i)) = some (nI (nmT k i)) := by decide +kernel
theorem NM_0 : ∀ k, k < 15 → ∀ i, i < 8 → (i < wl k → ¬ nmT k i = 0) ∧ (wl k ≤ i → nmT k i = 0) ∧ nmT k i ≤ 255 := by decide +kernel
theorem wl_8 : ∀ k, k < 15 → wl k ≤ 8 ∧ 2 ≤ wl k := by decide +kernel
theorem NM_inj : ∀ k, k < 15 → ∀ j, j < 15 → wl k = wl j → (∀ i, i < wl k → nmT k i = nmT j i) → k = j := by decide +kernel
theorem sg_15 : ∀ j, j < 15 → sg j < 15 := by decide +kernel
theorem sx : ∀ j, j < 15 → strIx (sA j) = some j := by decide +kernel
theorem sl_e : ∀ j, j < 15 → Int32.ofNat (slen.getD j 0) = nI (wl (sg j)) ∧ slen.getD j 0 = wl (sg j) := by decide +kernel
theorem sc_e : ∀ j, j < 15 → ∀ i, i < wl (sg j) → (sbyt.getD j []).getD i 0 = nI (nmT (sg j) i) := by decide +kernel
theorem T_len {j : Nat} (hj : j < 15) (w : A_W) : F_T_length (sA j) w = some (nI (wl (sg j)), w) := by
  unfold F_T_length
  rw [sx j hj]
  show some (Int32.ofNat (slen.getD j 0), w) = _
  rw [(sl_e j hj).1]
theorem T_chr {j i : Nat} (hj : j < 15) (hi : i < wl (sg j)) (w : A_W) : F_T_charAt (sA j) (nI i) w = some (nI (nmT (sg j) i), w) := by
  unfold F_T_charAt
  have h8 := (wl_8 (sg j) (sg_15 j hj)).1
  rw [sx j hj]
  show (if inb (nI i) (slen.getD j 0) then some ((sbyt.getD j []).getD (nI i).toNatClampNeg 0, w) else none) = _
  rw [(sl_e j hj).2, if_pos (inb_nI hi (by omega)), nI_clamp (by omega), sc_e j hj i hi]
abbrev Tk : Type := Nat × Nat × Nat × Nat × Nat
def Tk.ct (T : Tk) : Nat := T.1
def Tk.kd (T : Tk) : Nat := T.2.1
def Tk.b (T : Tk) : Nat := T.2.2.1
def Tk.e (T : Tk) : Nat := T.2.2.2.1
def Tk.v (T : Tk) : Nat := T.2.2.2.2
abbrev isL (c : Nat) : Prop := 97 ≤ c ∧ c ≤ 122
abbrev isD (c : Nat) : Prop := 48 ≤ c ∧ c ≤ 57
def skS (a : Nat → Nat) : Nat → Nat → Nat
  | 0, p => p
  | k + 1, p => if a p = 32 then skS a k (p + 1) else p
def ltS (a : Nat → Nat) : Nat → Nat → Nat
  | 0, p => p
  | k + 1, p => if isL (a p) then ltS a k (p + 1) else p
def dgV (v c : Nat) : Nat := if 9999 < v then v else 10 * v + c - 48
def dgS (a : Nat → Nat) : Nat → Nat → Nat → Nat × Nat
  | 0, p, v => (p, v)
  | k + 1, p, v => if isD (a p) then dgS a k (p + 1) (dgV v (a p)) else (p, v)
def aB (a : Nat → Nat) (k b : Nat) : Nat → Nat → Bool
  | 0, _ => true
  | j + 1, i => if nmT k i = a (b + i) then aB a k b j (i + 1) else false
def nmB (a : Nat → Nat) (k b e : Nat) : Bool := if e - b = wl k then aB a k b (wl k) 0 else false
def wF (a : Nat → Nat) (b e : Nat) : Nat → Nat → Nat
  | 0, _ => 23
  | j + 1, k => if nmB a k b e = true then k else wF a b e j (k + 1)
def tkb (a : Nat → Nat) (n b : Nat) : Tk := if b = n then ⟨0, 22, b, b, 0⟩ else if isL (a b) then ⟨1, wF a b (ltS a (n - b) b) 15 0, b, ltS a (n - b) b, 0⟩ else if isD (a b) then ⟨2, 20, b, (dgS a (n - b) b 0).1, (dgS a (n - b) b 0).2⟩ else if a b = 59 then ⟨3, 21, b, b + 1, 0⟩ else ⟨4, 23, b, b + 1, 0⟩
def tk (a : Nat → Nat) (n p : Nat) : Tk := tkb a n (skS a (n - p) p)
theorem skS_bd (a : Nat → Nat) : ∀ (k p : Nat), p ≤ skS a k p ∧ skS a k p ≤ p + k := by
  intro k
  induction k with
  | zero => intro p; exact ⟨Nat.le_refl _, Nat.le_refl _⟩
  | succ k ih =>
    intro p
    rw [skS]
    split
    · have := ih (p + 1); omega
    · omega
theorem ltS_bd (a : Nat → Nat) : ∀ (k p : Nat), p ≤ ltS a k p ∧ ltS a k p ≤ p + k ∧ ∀ i, p ≤ i → i < ltS a k p → isL (a i) := by
  intro k
  induction k with
  | zero => intro p; exact ⟨Nat.le_refl _, Nat.le_refl _, fun i h1 h2 => absurd h2 (by show ¬ i < p; omega)⟩
  | succ k ih =>
    intro p
    rw [ltS]
    split
    · rename_i c
      obtain ⟨h1, h2, h3⟩ := ih (p + 1)
      refine ⟨by omega, by omega, fun i h4 h5 => ?_⟩
      by_cases e : i = p
      · subst e; exact c
      · exact h3 i (by omega) h5
    · exact ⟨Nat.le_refl _, by omega, fun i h1 h2 => by omega⟩
theorem dgS_bd (a : Nat → Nat) : ∀ (k p v : Nat), v ≤ 99999 → p ≤ (dgS a k p v).1 ∧ (dgS a k p v).1 ≤ p + k ∧ (dgS a k p v).2 ≤ 99999 := by
  intro k
  induction k with
  | zero => intro p v hv; exact ⟨Nat.le_refl _, Nat.le_refl _, hv⟩
  | succ k ih =>
    intro p v hv
    rw [dgS]
    split
    · rename_i c
      have hd : dgV v (a p) ≤ 99999 := by
        unfold dgV
        unfold isD at c
        split <;> omega
      have := ih (p + 1) _ hd; omega
    · exact ⟨Nat.le_refl _, by omega, hv⟩
theorem ltS_1 (a : Nat → Nat) {k p : Nat} (hk : 0 < k) (h : isL (a p)) : p < ltS a k p := by
  obtain ⟨k, rfl⟩ : ∃ k', k = k' + 1 := ⟨k - 1, by omega⟩
  rw [ltS, if_pos h]
  have := (ltS_bd a k (p + 1)).1; omega
theorem dgS_1 (a : Nat → Nat) {k p : Nat} (hk : 0 < k) (h : isD (a p)) : p < (dgS a k p 0).1 := by
  obtain ⟨k, rfl⟩ : ∃ k', k = k' + 1 := ⟨k - 1, by omega⟩
  rw [dgS, if_pos h]
  have hd : dgV 0 (a p) ≤ 99999 := by unfold dgV; unfold isD at h; split <;> omega
  have := (dgS_bd a k (p + 1) _ hd).1; omega
/-- a token lies in its place -/
theorem tk_bd (a : Nat → Nat) {n p : Nat} (hp : p ≤ n) : p ≤ (tk a n p).b ∧ (tk a n p).b ≤ (tk a n p).e ∧ (tk a n p).e ≤ n ∧ (tk a n p).v ≤ 99999 ∧ ((tk a n p).ct = 0 ∨ (tk a n p).b < (tk a n p).e) ∧ (tk a n p).ct ≤ 4 := by
  unfold tk
  have h1 := skS_bd a (n - p) p
  generalize skS a (n - p) p = b at h1
  unfold tkb
  split
  · exact ⟨h1.1, Nat.le_refl _, by show b ≤ n; omega, by show 0 ≤ 99999; omega, Or.inl rfl, by show 0 ≤ 4; omega⟩
  · split
    · rename_i c1 c2
      have h2 := ltS_bd a (n - b) b
      have h3 := ltS_1 a (k := n - b) (p := b) (by omega) c2
      exact ⟨h1.1, h2.1, by show ltS a (n - b) b ≤ n; omega, by show 0 ≤ 99999; omega, Or.inr h3, by show 1 ≤ 4; omega⟩
    · split
      · rename_i c1 c2 c3
        have h2 := dgS_bd a (n - b) b 0 (by omega)
        have h3 := dgS_1 a (k := n - b) (p := b) (by omega) c3
        exact ⟨h1.1, h2.1, by show (dgS a (n - b) b 0).1 ≤ n; omega, h2.2.2, Or.inr h3, by show 2 ≤ 4; omega⟩
      · split
        · exact ⟨h1.1, by show b ≤ b + 1; omega, by show b + 1 ≤ n; omega, by show 0 ≤ 99999; omega, Or.inr (by show b < b + 1; omega), by show 3 ≤ 4; omega⟩
        · exact ⟨h1.1, by show b ≤ b + 1; omega, by show b + 1 ≤ n; omega, by show 0 ≤ 99999; omega, Or.inr (by show b < b + 1; omega), by show 4 ≤ 4; omega⟩
theorem aB_iff (a : Nat → Nat) (k b : Nat) : ∀ (j i : Nat), aB a k b j i = true ↔ ∀ l, i ≤ l → l < i + j → nmT k l = a (b + l) := by
  intro j
  induction j with
  | zero => intro i; exact ⟨fun _ l h1 h2 => by omega, fun _ => rfl⟩
  | succ j ih =>
    intro i
    rw [aB]
    by_cases c : nmT k i = a (b + i)
    · rw [if_pos c, ih (i + 1)]
      constructor
      · intro h l h1 h2
        by_cases e : l = i
        · subst e; exact c
        · exact h l (by omega) (by omega)
      · intro h l h1 h2; exact h l (by omega) (by omega)
    · rw [if_neg c]
      constructor
      · intro h; exact absurd h (by decide)
      · intro h; exact absurd (h i (by omega) (by omega)) c
theorem nmB_iff (a : Nat → Nat) (k b e : Nat) : nmB a k b e = true ↔ e - b = wl k ∧ ∀ l, l < wl k → nmT k l = a (b + l) := by
  unfold nmB
  by_cases c : e - b = wl k
  · rw [if_pos c, aB_iff]
    exact ⟨fun h => ⟨c, fun l hl => h l (by omega) (by omega)⟩, fun h l _ h2 => h.2 l (by omega)⟩
  · rw [if_neg c]
    exact ⟨fun h => absurd h (by decide), fun h => absurd h.1 c⟩
theorem nmB_inj {a : Nat → Nat} {k j b e : Nat} (hk : k < 15) (hj : j < 15) (h1 : nmB a k b e = true) (h2 : nmB a j b e = true) : k = j := by
  rw [nmB_iff] at h1 h2
  exact NM_inj k hk j hj (by omega) (fun i hi => by rw [h1.2 i hi, h2.2 i (by omega)])
theorem wF_iff (a : Nat → Nat) (b e : Nat) : ∀ (j k : Nat), k + j = 15 → ∀ x, x < 15 → k ≤ x → (wF a b e j k = x ↔ nmB a x b e = true) := by
  intro j
  induction j with
  | zero => intro k hk x h1 h2; omega
  | succ j ih =>
    intro k hk x h1 h2
    rw [wF]
    by_cases c : nmB a k b e = true
    · rw [if_pos c]
      exact ⟨fun h => by rw [← h]; exact c, fun h => nmB_inj (by omega) h1 c h⟩
    · rw [if_neg c]
      by_cases e2 : x = k
      · subst e2
        constructor
        · intro h
          exfalso
          have key : ∀ (j k : Nat), wF a b e j k = 23 ∨ k ≤ wF a b e j k := by
            intro j
            induction j with
            | zero => intro k; exact Or.inl rfl
            | succ j ih2 =>
              intro k
              rw [wF]
              split
              · exact Or.inr (Nat.le_refl _)
              · rcases ih2 (k + 1) with h3 | h3
                · exact Or.inl h3
                · exact Or.inr (by omega)
          have := key j (x + 1)
          omega
        · intro h; exact absurd h c
      · exact ih (k + 1) (by omega) x h1 (by omega)
theorem wF_bd (a : Nat → Nat) (b e : Nat) : ∀ (j k : Nat), k + j = 15 → wF a b e j k ≤ 23 ∧ (wF a b e j k < 15 ∨ wF a b e j k = 23) := by
  intro j
  induction j with
  | zero => intro k _; exact ⟨Nat.le_refl _, Or.inr rfl⟩
  | succ j ih =>
    intro k hk
    rw [wF]
    split
    · exact ⟨by omega, Or.inl (by omega)⟩
    · exact ih (k + 1) (by omega)
/-- the word k is here -/
def wq (a : Nat → Nat) (T : Tk) (k : Nat) : Bool := decide (T.ct = 1) && nmB a k T.b T.e
theorem tk_kd (a : Nat → Nat) (n p : Nat) {k : Nat} (hk : k < 15) : (tk a n p).kd = k ↔ wq a (tk a n p) k = true := by
  unfold tk
  generalize skS a (n - p) p = b
  unfold tkb wq
  split
  · exact ⟨fun h => absurd h (by show ¬ 22 = k; omega), fun h => absurd h (by simp [Tk.ct])⟩
  · split
    · have h := wF_iff a b (ltS a (n - b) b) 15 0 (by omega) k hk (by omega)
      simp only [Tk.kd, Tk.ct, Tk.b, Tk.e, h, decide_true, Bool.true_and]
    · split
      · exact ⟨fun h => absurd h (by show ¬ 20 = k; omega), fun h => absurd h (by simp [Tk.ct])⟩
      · split
        · exact ⟨fun h => absurd h (by show ¬ 21 = k; omega), fun h => absurd h (by simp [Tk.ct])⟩
        · exact ⟨fun h => absurd h (by show ¬ 23 = k; omega), fun h => absurd h (by simp [Tk.ct])⟩
theorem tk_ct (a : Nat → Nat) (n p : Nat) : ((tk a n p).kd = 20 ↔ (tk a n p).ct = 2) ∧ ((tk a n p).kd = 21 ↔ (tk a n p).ct = 3) ∧ ((tk a n p).kd = 22 ↔ (tk a n p).ct = 0) ∧ (tk a n p).kd ≤ 23 := by
  unfold tk
  generalize skS a (n - p) p = b
  unfold tkb
  split
  · simp [Tk.kd, Tk.ct]
  · split
    · have h := wF_bd a b (ltS a (n - b) b) 15 0 (by omega)
      show (wF a b (ltS a (n - b) b) 15 0 = 20 ↔ 1 = 2) ∧ (wF a b (ltS a (n - b) b) 15 0 = 21 ↔ 1 = 3) ∧ (wF a b (ltS a (n - b) b) 15 0 = 22 ↔ 1 = 0) ∧ wF a b (ltS a (n - b) b) 15 0 ≤ 23
      omega
    · split
      · simp [Tk.kd, Tk.ct]
      · split
        · simp [Tk.kd, Tk.ct]
        · simp [Tk.kd, Tk.ct]
/-! THE CLASS'S READER -/
def TB (w : A_W) (a : Nat → Nat) : Prop := 37 < w.length ∧ ∃ tp : Nat → Int32, w[38]? = some (.inl (120, tp)) ∧ ∀ i, i < 120 → tp i = nI (a i) ∧ a i ≤ 255
def QT (n : Nat) (q : Nat → Int32) (T : Tk) : Prop := q 0 = nI n ∧ q 1 = nI T.ct ∧ q 2 = nI T.b ∧ q 3 = nI T.e ∧ (T.ct = 2 → q 4 = nI (min T.v 10000))
section RDR
variable {w : A_W} {a : Nat → Nat} {n : Nat}
theorem TB.d (h : TB w a) (q : Nat → Int32) : (dW w q)[37]? = some (dobj q) := List.getElem?_set_self h.1
theorem TB.rd_ (h : TB w a) (q : Nat → Int32) {i : Nat} (hi : i < 120) : rd (dW w q) 38 (nI i) = some (nI (a i)) := by
  obtain ⟨tp, h1, h2⟩ := h.2
  unfold rd
  rw [dW_at (by omega), h1]
  show (if inb (nI i) 120 then some (tp (nI i).toNatClampNeg) else none) = _
  rw [if_pos (inb_nI hi (by omega)), nI_clamp (by omega), (h2 i hi).1]
theorem TB.a_ (h : TB w a) {i : Nat} (hi : i < 120) : a i ≤ 255 := by obtain ⟨tp, h1, h2⟩ := h.2; exact (h2 i hi).2
theorem D_isL (c : Nat) (hc : c ≤ 255) (w : A_W) : F_D_isLetter (nI c) w = some (bI (isL c), w) := by
  unfold F_D_isLetter F_D_isLetter_0 F_D_isLetter_16 F_D_isLetter_17 bI isL
  by_cases h1 : c < 97
  · rw [if_pos (show nI c < 97 from nI_lt (b := 97) h1 (by omega)), if_neg (by omega)]; rfl
  · rw [if_neg (show ¬ nI c < 97 from nI_nlt (b := 97) (by omega) (by omega))]
    by_cases h2 : 122 < c
    · rw [if_pos (show 122 < nI c from nI_lt (a := 122) h2 (by omega)), if_neg (by omega)]; rfl
    · rw [if_neg (show ¬ 122 < nI c from nI_nlt (a := 122) (by omega) (by omega)), if_pos (by omega)]; rfl
theorem D_isD (c : Nat) (hc : c ≤ 255) (w : A_W) : F_D_isDigit (nI c) w = some (bI (isD c), w) := by
  unfold F_D_isDigit F_D_isDigit_0 F_D_isDigit_16 F_D_isDigit_17 bI isD
  by_cases h1 : c < 48
  · rw [if_pos (show nI c < 48 from nI_lt (b := 48) h1 (by omega)), if_neg (by omega)]; rfl
  · rw [if_neg (show ¬ nI c < 48 from nI_nlt (b := 48) (by omega) (by omega))]
    by_cases h2 : 57 < c
    · rw [if_pos (show 57 < nI c from nI_lt (a := 57) h2 (by omega)), if_neg (by omega)]; rfl
    · rw [if_neg (show ¬ 57 < nI c from nI_nlt (a := 57) (by omega) (by omega)), if_pos (by omega)]; rfl
theorem D_skip (B : TB w a) (hn : n ≤ 120) : ∀ (m k p : Nat) (q : Nat → Int32), q 0 = nI n → q 2 = nI p → p + k = n → k < m → F_D_step_8 m 37 (dW w q) = F_D_step_46 37 (dW w (upd q 2 (nI (skS a k p)))) := by
  intro m
  induction m with
  | zero => intro k p q _ _ _ hk; exact absurd hk (by omega)
  | succ m ih =>
    intro k p q h0 h2 hk hm
    have D := B.d q
    rw [F_D_step_8, D_g3 D, Option.bind_some, D_g1 D, Option.bind_some, h0, h2]
    cases k with
    | zero =>
      rw [if_pos (nI_le (by omega) (by omega)), skS, ← h2, upd_i]
    | succ k =>
      have hp : p < 120 := by omega
      have ha := B.a_ hp
      rw [if_neg (fun z => by rw [nI_leI (by omega) (by omega)] at z; omega), D_g0 D, Option.bind_some, Option.bind_some, B.rd_ q hp, Option.bind_some, skS]
      by_cases c : a p = 32
      · rw [if_pos (by rw [c]; rfl), Option.bind_some, D_pf D (k := 2) (by omega), Option.bind_some, dW_dW, nI_1, if_pos c]
        rw [ih k (p + 1) _ (by rw [upd_n (by omega)]; exact h0) upd_s (by omega) (by omega), upd_u]
      · rw [if_neg (show ¬ nI (a p) = 32 from fun z => c ((nI_eq (b := 32) (by omega) (by omega)).mp z)), if_neg c, ← h2, upd_i]
theorem D_letters (B : TB w a) (hn : n ≤ 120) : ∀ (m k p : Nat) (q : Nat → Int32), q 0 = nI n → q 3 = nI p → p + k = n → k < m → F_D_step_93 m 37 (dW w q) = some (dW w (upd q 3 (nI (ltS a k p)))) := by
  intro m
  induction m with
  | zero => intro k p q _ _ _ hk; exact absurd hk (by omega)
  | succ m ih =>
    intro k p q h0 h2 hk hm
    have D := B.d q
    rw [F_D_step_93, D_g4 D, Option.bind_some, D_g1 D, Option.bind_some, h0, h2]
    unfold F_D_step_259
    cases k with
    | zero =>
      rw [if_pos (nI_le (by omega) (by omega)), ltS, ← h2, upd_i]
    | succ k =>
      have hp : p < 120 := by omega
      have ha := B.a_ hp
      rw [if_neg (fun z => by rw [nI_leI (by omega) (by omega)] at z; omega), D_g0 D, Option.bind_some, Option.bind_some, B.rd_ q hp, Option.bind_some, D_isL _ ha, Option.bind_some, ltS]
      dsimp only
      by_cases c : isL (a p)
      · rw [if_neg (bI_y c), D_g4 D, h2, Option.bind_some, D_pf D (k := 3) (by omega), Option.bind_some, dW_dW, nI_1, if_pos c]
        rw [ih k (p + 1) _ (by rw [upd_n (by omega)]; exact h0) upd_s (by omega) (by omega), upd_u]
      · rw [if_pos (show bI (isL (a p)) = 0 by unfold bI; rw [if_neg c]), if_neg c, ← h2, upd_i]
theorem D_digits (B : TB w a) (hn : n ≤ 120) : ∀ (m k p v : Nat) (q : Nat → Int32), q 0 = nI n → q 3 = nI p → q 4 = nI (min v 10000) → p + k = n → k < m → F_D_step_157 m 37 (dW w q) = some (dW w (upd (upd q 4 (nI (min (dgS a k p v).2 10000))) 3 (nI (dgS a k p v).1))) := by
  intro m
  induction m with
  | zero => intro k p v q _ _ _ _ hk; exact absurd hk (by omega)
  | succ m ih =>
    intro k p v q h0 h2 h4 hk hm
    have D := B.d q
    rw [F_D_step_157, D_g4 D, Option.bind_some, D_g1 D, Option.bind_some, h0, h2]
    unfold F_D_step_259
    cases k with
    | zero =>
      rw [if_pos (nI_le (by omega) (by omega)), dgS]
      dsimp only
      rw [← h2, ← h4, upd_i, upd_i]
    | succ k =>
      have hp : p < 120 := by omega
      have ha := B.a_ hp
      rw [if_neg (fun z => by rw [nI_leI (by omega) (by omega)] at z; omega), D_g0 D, Option.bind_some, Option.bind_some, B.rd_ q hp, Option.bind_some, D_isD _ ha, Option.bind_some, dgS]
      dsimp only
      by_cases c : isD (a p)
      · have c' := c
        unfold isD at c'
        have e1 : ((10 : Int32) * nI (min v 10000) + nI (a p)) - 48 = nI (10 * min v 10000 + a p - 48) := by
          rw [show (10 : Int32) * nI (min v 10000) = nI (10 * min v 10000) from pk_mul 10 _, nI_add]
          exact pk_sub (b := 48) (by omega)
        have e2 : jmin (nI (10 * min v 10000 + a p - 48)) 10000 = nI (min (dgV v (a p)) 10000) := by
          rw [jmin_n (y := 10000) (b := 10000) rfl rfl (by omega) (by omega)]
          congr 1
          unfold dgV
          split <;> omega
        have D1 := B.d (upd q 4 (nI (min (dgV v (a p)) 10000)))
        rw [if_neg (bI_y c), D_g5 D, h4, Option.bind_some, D_g0 D, Option.bind_some, D_g4 D, h2, Option.bind_some, B.rd_ q hp, Option.bind_some, e1, e2, D_pf D (k := 4) (by omega), Option.bind_some, dW_dW, D_g4 D1, Option.bind_some, upd_n (by omega), h2, D_pf D1 (k := 3) (by omega), Option.bind_some, dW_dW, nI_1, if_pos c]
        rw [ih k (p + 1) (dgV v (a p)) _ (by rw [upd_n (by omega), upd_n (by omega)]; exact h0) upd_s (by rw [upd_n (by omega), upd_s]) (by omega) (by omega)]
        congr 2
        rw [upd_c _ (show 3 ≠ 4 by omega), upd_u, upd_u]
      · rw [if_pos (show bI (isD (a p)) = 0 by unfold bI; rw [if_neg c]), if_neg c]
        dsimp only
        rw [← h2, ← h4, upd_i, upd_i]
theorem D_step (B : TB w a) (hn : n ≤ 120) {p : Nat} (hp : p ≤ n) {q : Nat → Int32} (h0 : q 0 = nI n) (h3 : q 3 = nI p) : ∃ q', F_D_step 37 (dW w q) = some (dW w q') ∧ QT n q' (tk a n p) := by
  have D := B.d q
  have hb := skS_bd a (n - p) p
  have hs := D_skip B hn FU (n - p) p (upd q 2 (nI p)) (by rw [upd_n (by omega)]; exact h0) upd_s (by omega) (by unfold FU; omega)
  unfold F_D_step F_D_step_0
  rw [D_g4 D, Option.bind_some, h3, D_pf D (k := 2) (by omega), Option.bind_some, dW_dW, hs, upd_u]
  unfold tk
  generalize hbe : skS a (n - p) p = b at hb ⊢
  have D1 := B.d (upd q 2 (nI b))
  have D2 := B.d (upd (upd q 2 (nI b)) 3 (nI b))
  have q0 : (upd (upd q 2 (nI b)) 3 (nI b)) 0 = nI n := by rw [upd_n (by omega), upd_n (by omega)]; exact h0
  have q2 : (upd (upd q 2 (nI b)) 3 (nI b)) 2 = nI b := by rw [upd_n (by omega), upd_s]
  unfold F_D_step_46
  rw [D_g3 D1, upd_s, Option.bind_some, D_pf D1 (k := 3) (by omega), Option.bind_some, dW_dW, D_g3 D2, q2, Option.bind_some, D_g1 D2, q0, Option.bind_some]
  unfold tkb
  by_cases c0 : b = n
  · rw [if_neg (nI_nlt (by omega) (by omega)), D_pf D2 (k := 1) (by omega), Option.bind_some, dW_dW, if_pos c0]
    refine ⟨_, rfl, ?_, ?_, ?_, ?_, fun z => absurd z (by show ¬ (0 : Nat) = 2; omega)⟩
    · rw [upd_n (by omega)]; exact q0
    · exact upd_s
    · rw [upd_n (by omega)]; exact q2
    · rw [upd_n (by omega), upd_s]; rfl
  · have hb2 : b < 120 := by omega
    have ha := B.a_ hb2
    rw [if_pos (nI_lt (by omega) (by omega)), D_g0 D2, Option.bind_some, Option.bind_some, B.rd_ _ hb2, Option.bind_some, D_isL _ ha, Option.bind_some, if_neg c0]
    dsimp only
    by_cases c1 : isL (a b)
    · have h1 := D_letters B hn FU (n - b) b (upd (upd (upd q 2 (nI b)) 3 (nI b)) 1 1) (by rw [upd_n (by omega)]; exact q0) (by rw [upd_n (by omega), upd_s]) (by omega) (by unfold FU; omega)
      rw [if_neg (bI_y c1), D_pf D2 (k := 1) (by omega), Option.bind_some, dW_dW, h1, if_pos c1]
      refine ⟨_, rfl, ?_, ?_, ?_, ?_, fun z => absurd z (by show ¬ (1 : Nat) = 2; omega)⟩
      · rw [upd_n (by omega), upd_n (by omega)]; exact q0
      · rw [upd_n (by omega), upd_s]; rfl
      · rw [upd_n (by omega), upd_n (by omega)]; exact q2
      · exact upd_s
    · rw [if_pos (show bI (isL (a b)) = 0 by unfold bI; rw [if_neg c1]), D_g0 D2, Option.bind_some, D_g3 D2, q2, Option.bind_some, B.rd_ _ hb2, Option.bind_some, D_isD _ ha, Option.bind_some, if_neg c1]
      dsimp only
      by_cases c2 : isD (a b)
      · have D3 := B.d (upd (upd (upd q 2 (nI b)) 3 (nI b)) 1 2)
        have h1 := D_digits B hn FU (n - b) b 0 (upd (upd (upd (upd q 2 (nI b)) 3 (nI b)) 1 2) 4 0) (by rw [upd_n (by omega), upd_n (by omega)]; exact q0) (by rw [upd_n (by omega), upd_n (by omega), upd_s]) upd_s (by omega) (by unfold FU; omega)
        rw [if_neg (bI_y c2), D_pf D2 (k := 1) (by omega), Option.bind_some, dW_dW, D_pf D3 (k := 4) (by omega), Option.bind_some, dW_dW, h1, if_pos c2]
        refine ⟨_, rfl, ?_, ?_, ?_, ?_, fun _ => ?_⟩
        · rw [upd_n (by omega), upd_n (by omega), upd_n (by omega), upd_n (by omega)]; exact q0
        · rw [upd_n (by omega), upd_n (by omega), upd_n (by omega), upd_s]; rfl
        · rw [upd_n (by omega), upd_n (by omega), upd_n (by omega), upd_n (by omega)]; exact q2
        · exact upd_s
        · rw [upd_n (by omega), upd_s]; rfl
      · rw [if_pos (show bI (isD (a b)) = 0 by unfold bI; rw [if_neg c2]), D_g0 D2, Option.bind_some, D_g3 D2, q2, Option.bind_some, B.rd_ _ hb2, Option.bind_some, if_neg c2]
        have key : ∀ y : Int32, F_D_step_246 37 37 y (dW w (upd (upd q 2 (nI b)) 3 (nI b))) = some (dW w (upd (upd (upd (upd q 2 (nI b)) 3 (nI b)) 1 y) 3 (nI (b + 1)))) := by
          intro y
          have D3 := B.d (upd (upd (upd q 2 (nI b)) 3 (nI b)) 1 y)
          unfold F_D_step_246 F_D_step_259
          rw [D_pf D2 (k := 1) (by omega), Option.bind_some, dW_dW, D_g4 D3, Option.bind_some, upd_n (by omega), upd_s, D_pf D3 (k := 3) (by omega), Option.bind_some, dW_dW, nI_1]
        by_cases c3 : a b = 59
        · rw [if_pos (by rw [c3]; rfl), key, if_pos c3]
          refine ⟨_, rfl, ?_, ?_, ?_, upd_s, fun z => absurd z (by show ¬ (3 : Nat) = 2; omega)⟩
          · rw [upd_n (by omega), upd_n (by omega)]; exact q0
          · rw [upd_n (by omega), upd_s]; rfl
          · rw [upd_n (by omega), upd_n (by omega)]; exact q2
        · rw [if_neg (show ¬ nI (a b) = 59 from fun z => c3 ((nI_eq (b := 59) (by omega) (by omega)).mp z)), key, if_neg c3]
          refine ⟨_, rfl, ?_, ?_, ?_, upd_s, fun z => absurd z (by show ¬ (4 : Nat) = 2; omega)⟩
          · rw [upd_n (by omega), upd_n (by omega)]; exact q0
          · rw [upd_n (by omega), upd_s]; rfl
          · rw [upd_n (by omega), upd_n (by omega)]; exact q2
theorem D_word_loop (B : TB w a) {j b : Nat} (hj : j < 15) {q : Nat → Int32} (h2 : q 2 = nI b) (hb : b + wl (sg j) ≤ 120) : ∀ (m k i : Nat) (x : Int32), x = nI i → i + k = wl (sg j) → k < m → F_D_isWord_28 m 37 (sA j) x (dW w q) = some (tdI (aB a (sg j) b k i), dW w q) := by
  intro m
  induction m with
  | zero => intro k i x _ _ hk; exact absurd hk (by omega)
  | succ m ih =>
    intro k i x hx hk hm
    have D := B.d q
    have h8 := (wl_8 (sg j) (sg_15 j hj)).1
    rw [F_D_isWord_28, T_len hj, Option.bind_some, hx]
    dsimp only
    cases k with
    | zero => rw [if_pos (nI_le (by omega) (by omega)), bz1]; rfl
    | succ k =>
      have hp : b + i < 120 := by omega
      have ha := B.a_ hp
      have hn := ((NM_0 (sg j) (sg_15 j hj) i (by omega)).2.2)
      rw [if_neg (fun z => by rw [nI_leI (by omega) (by omega)] at z; omega), D_g0 D, Option.bind_some, D_g3 D, h2, Option.bind_some, nI_add, B.rd_ q hp, Option.bind_some, T_chr hj (by omega), Option.bind_some, aB]
      dsimp only
      by_cases c : nmT (sg j) i = a (b + i)
      · rw [if_pos (by rw [c]), if_pos c]
        exact ih k (i + 1) _ (nI_1 i) (by omega) (by omega)
      · rw [if_neg (fun z => c ((nI_eq (by omega) (by omega)).mp z).symm), if_neg c, bz0]; rfl
theorem D_isWord (B : TB w a) (hn : n ≤ 120) {j : Nat} (hj : j < 15) {q : Nat → Int32} {T : Tk} (hq : QT n q T) (hb : T.b ≤ T.e) (he : T.e ≤ n) (hc : T.ct ≤ 4) : F_D_isWord 37 (sA j) (dW w q) = some (tdI (wq a T (sg j)), dW w q) := by
  have D := B.d q
  obtain ⟨q0, q1, q2, q3, -⟩ := hq
  have h8 := (wl_8 (sg j) (sg_15 j hj)).1
  unfold F_D_isWord F_D_isWord_0 F_D_isWord_24 wq nmB
  rw [D_g2 D, Option.bind_some, q1]
  by_cases c : T.ct = 1
  · rw [if_pos (by rw [c]; rfl), D_g4 D, Option.bind_some, D_g3 D, Option.bind_some, T_len hj, Option.bind_some, q2, q3, pk_sub hb, decide_eq_true c, Bool.true_and]
    dsimp only
    by_cases c2 : T.e - T.b = wl (sg j)
    · have h1 := D_word_loop B hj q2 (b := T.b) (by omega) FU (wl (sg j)) 0 0 rfl (by omega) (by unfold FU; omega)
      rw [if_pos (by rw [c2]), h1, if_pos c2]
    · rw [if_neg (fun z => c2 ((nI_eq (by omega) (by omega)).mp z)), if_neg c2, bz0]; rfl
  · rw [if_neg (show ¬ nI T.ct = 1 from fun z => c ((nI_eq (b := 1) (by omega) (by omega)).mp z)), decide_eq_false c, bz0]; rfl
abbrev nq (T : Tk) (lo hi : Nat) : Prop := T.ct = 2 ∧ lo ≤ T.v ∧ T.v ≤ hi
theorem D_isNumber (B : TB w a) {q : Nat → Int32} {T : Tk} (hq : QT n q T) (hc : T.ct ≤ 4) {lo hi : Nat} (h : hi ≤ 9999) (hl : lo ≤ hi) {x y : Int32} (hx : x = nI lo) (hy : y = nI hi) : F_D_isNumber 37 x y (dW w q) = some (bI (nq T lo hi), dW w q) := by
  have D := B.d q
  obtain ⟨q0, q1, q2, q3, q4⟩ := hq
  unfold F_D_isNumber F_D_isNumber_0 F_D_isNumber_24 F_D_isNumber_25
  rw [D_g2 D, Option.bind_some, q1]
  by_cases c : T.ct = 2
  · rw [if_pos (by rw [c]; rfl), D_g5 D, Option.bind_some, q4 c, K_within, Option.bind_some, hx, hy]
    dsimp only
    by_cases c2 : lo ≤ T.v ∧ T.v ≤ hi
    · have e : nq T lo hi := ⟨c, c2⟩
      rw [if_neg (bI_y ⟨nI_le (by omega) (by omega), nI_le (by omega) (by omega)⟩), bz1]
      unfold bI; rw [if_pos e]; rfl
    · have e : ¬ nq T lo hi := fun z => c2 z.2
      rw [if_pos, bz0]
      · unfold bI; rw [if_neg e]; rfl
      · rw [bI_0]
        rintro ⟨z1, z2⟩
        rw [nI_leI (by omega) (by omega)] at z1 z2
        exact c2 ⟨by omega, by omega⟩
  · have e : ¬ nq T lo hi := fun z => c z.1
    rw [if_neg (show ¬ nI T.ct = 2 from fun z => c ((nI_eq (b := 2) (by omega) (by omega)).mp z)), bz0]
    unfold bI; rw [if_neg e]; rfl
end RDR
