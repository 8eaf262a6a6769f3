/-! THE MODEL'S READER -/
def MT (n : Nat) (s : Nat → Int32) (T : Tk) : Prop := s 9 = nI n ∧ s 10 = nI T.kd ∧ s 11 = nI T.b ∧ s 12 = nI T.e ∧ s 13 = nI T.v
/-- the model's tape -/
def MA (h : Nat → Nat → Int32) (a : Nat → Nat) : Prop := ∀ i, i < 120 → h 7 i = nI (a i) ∧ a i ≤ 255
section MRD
variable {w : A_W} {h : Nat → Nat → Int32} {s0 : Nat → Int32} {a : Nat → Nat} {n : Nat}
theorem MA_rd (M : MM w h s0) (A : MA h a) (s : Nat → Int32) {i : Nat} (hi : i < 120) : rd (mP w s) 57 (nI i) = some (nI (a i)) := by
  have := (M.setP s).rdN (a := 7) (i := i) (x := nI i) (by omega) hi (by decide) rfl
  rw [(A i hi).1] at this
  exact this
theorem M_isByte (M : MM w h s0) (A : MA h a) (hn : n ≤ 120) {s : Nat → Int32} (h9 : s 9 = nI n) {p lo hi : Nat} (hp : p ≤ n) (hl : lo ≤ 255) (hh : hi ≤ 255) {x y : Int32} (hx : x = nI lo) (hy : y = nI hi) : F_M_isByte 49 (nI p) x y (mP w s) = some (bI (p < n ∧ lo ≤ a p ∧ a p ≤ hi), mP w s) := by
  have T := M.setP s
  unfold F_M_isByte F_M_isByte_0 F_M_isByte_26 F_M_isByte_27
  rw [T.gi9, Option.bind_some, h9]
  by_cases c : p < n
  · have ha := (A p (by omega)).2
    rw [if_neg (fun z => by rw [nI_leI (by omega) (by omega)] at z; omega), T.gr8, Option.bind_some, MA_rd M A s (by omega), Option.bind_some, M_in, Option.bind_some, hx, hy]
    dsimp only
    by_cases c2 : lo ≤ a p ∧ a p ≤ hi
    · rw [if_neg (bI_y ⟨nI_le c2.1 (by omega), nI_le c2.2 (by omega)⟩), bz1]
      unfold bI; rw [if_pos ⟨c, c2⟩]; rfl
    · rw [if_pos, bz0]
      · unfold bI; rw [if_neg (fun z => c2 z.2)]; rfl
      · rw [bI_0]
        rintro ⟨z1, z2⟩
        rw [nI_leI (by omega) (by omega)] at z1 z2
        exact c2 ⟨z1, z2⟩
  · rw [if_pos (nI_le (by omega) (by omega)), bz0]
    unfold bI; rw [if_neg (fun z => c z.1)]; rfl
theorem M_nm_0 (m t : Nat) (x1 x2 x4 : Int32) (w : A_W) : F_M_isName_34 (m + 1) t x1 x2 0 x4 w = some (0, w) := by
  rw [F_M_isName_34]
  unfold F_M_isName_82
  rw [bz0]
  split
  · rfl
  · rw [if_pos rfl]; rfl
theorem n8 {k i : Nat} : (8 : Int32) * nI k + nI i = nI (8 * k + i) := by rw [show (8 : Int32) * nI k = nI (8 * k) from pk_mul 8 k, nI_add]
theorem M_nm_loop (M : MM w h s0) (A : MA h a) {s : Nat → Int32} {k b sz : Nat} (hk : k < 15) (h11 : s 11 = nI b) (hs : sz ≤ 8) (hb : b + sz ≤ 120) : ∀ (m j i : Nat) (x : Int32), x = nI i → i + j = sz → j + 1 < m → F_M_isName_34 m 49 (nI k) (nI sz) 1 x (mP w s) = some (tdI (aB a k b j i), mP w s) := by
  have T := M.setP s
  intro m
  induction m with
  | zero => intro j i x _ _ hk; exact absurd hk (by omega)
  | succ m ih =>
    intro j i x hx hj hm
    rw [F_M_isName_34, hx]
    unfold F_M_isName_82
    cases j with
    | zero => rw [if_pos (nI_le (by omega) (by omega)), bz1]; rfl
    | succ j =>
      have hn := (NM_0 k hk i (by omega)).2.2
      have ha := (A (b + i) (by omega)).2
      rw [if_neg (fun z => by rw [nI_leI (by omega) (by omega)] at z; omega), if_neg (by decide), n8, NM_rs k hk i (by omega), Option.bind_some, T.gr8, Option.bind_some, T.gi11, h11, Option.bind_some, nI_add, MA_rd M A s (by omega), Option.bind_some, aB]
      unfold F_M_isName_75
      by_cases c : nmT k i = a (b + i)
      · rw [if_pos (by rw [c]), if_pos c]
        exact ih j (i + 1) _ (nI_1 i) (by omega) (by omega)
      · obtain ⟨m, rfl⟩ : ∃ m', m = m' + 1 := ⟨m - 1, by omega⟩
        rw [if_neg (fun z => c ((nI_eq (by omega) (by omega)).mp z)), if_neg c, M_nm_0]; rfl
theorem aB_nm {k b e : Nat} (hk : k < 15) (h1 : wl k ≤ e - b) (h2 : e - b ≤ 8) (hl : ∀ i, b ≤ i → i < e → isL (a i)) : aB a k b (e - b) 0 = nmB a k b e := by
  have w8 := wl_8 k hk
  rw [Bool.eq_iff_iff, aB_iff, nmB_iff]
  constructor
  · intro hh
    by_cases c : e - b = wl k
    · exact ⟨c, fun l hl => hh l (by omega) (by omega)⟩
    · exfalso
      have e1 := hh (wl k) (by omega) (by omega)
      have e2 := hl (b + wl k) (by omega) (by omega)
      rw [← e1, (NM_0 k hk (wl k) (by omega)).2.1 (Nat.le_refl _)] at e2
      exact absurd e2.1 (by omega)
  · rintro ⟨c, hh⟩ l _ h4
    exact hh l (by omega)
theorem M_isName (M : MM w h s0) (A : MA h a) {s : Nat → Int32} {k b e : Nat} (hk : k < 15) (h11 : s 11 = nI b) (hbe : b ≤ e) (he : e ≤ 120) (hl : ∀ i, b ≤ i → i < e → isL (a i)) : F_M_isName 49 (nI k) (nI (e - b)) (mP w s) = some (tdI (nmB a k b e), mP w s) := by
  have w8 := wl_8 k hk
  have f0 : ∀ x1 x2, F_M_isName_34 FU 49 x1 x2 0 0 (mP w s) = some (0, mP w s) := fun x1 x2 => M_nm_0 99999 49 x1 x2 0 _
  have f1 : e - b ≤ 8 → F_M_isName_34 FU 49 (nI k) (nI (e - b)) 1 0 (mP w s) = some (tdI (aB a k b (e - b) 0), mP w s) := fun h8 => M_nm_loop M A hk h11 h8 (by omega) FU (e - b) 0 0 rfl (by omega) (by unfold FU; omega)
  have hf : ¬ e - b = wl k → nmB a k b e = false := fun c => by unfold nmB; rw [if_neg c]
  unfold F_M_isName F_M_isName_0 F_M_isName_25 F_M_isName_29 F_M_isName_30
  by_cases c : 8 < e - b
  · rw [if_pos (show (8 : Int32) < nI (e - b) from nI_lt (a := 8) c (by omega)), f0, hf (by omega)]; rfl
  · rw [if_neg (show ¬ (8 : Int32) < nI (e - b) from nI_nlt (a := 8) (by omega) (by omega))]
    by_cases c8 : e - b = 8
    · rw [if_pos (by rw [c8]; rfl), f1 (by omega), aB_nm hk (by omega) (by omega) hl]
    · rw [if_neg (show ¬ nI (e - b) = 8 from fun z => c8 ((nI_eq (b := 8) (by omega) (by omega)).mp z)), n8, NM_rs k hk (e - b) (by omega), Option.bind_some]
      have n0 := NM_0 k hk (e - b) (by omega)
      by_cases c0 : nmT k (e - b) = 0
      · have hw : wl k ≤ e - b := by
          by_cases z : e - b < wl k
          · exact absurd c0 (n0.1 z)
          · omega
        rw [if_pos (by rw [c0]; rfl), f1 (by omega), aB_nm hk hw (by omega) hl]
      · have hw : e - b < wl k := by
          by_cases z : e - b < wl k
          · exact z
          · exact absurd (n0.2.1 (by omega)) c0
        rw [if_neg (nI_ne0 (by omega) (by omega)), f0, hf (by omega)]; rfl
theorem M_word_loop (M : MM w h s0) (A : MA h a) {s : Nat → Int32} {b e : Nat} (h11 : s 11 = nI b) (h12 : s 12 = nI e) (hbe : b ≤ e) (he : e ≤ 120) (hl : ∀ i, b ≤ i → i < e → isL (a i)) : ∀ (m j k : Nat) (x : Int32), x = nI k → k + j = 15 → j < m → F_M_wordHere_2 m 49 x (mP w s) = some (nI (wF a b e j k), mP w s) := by
  have T := M.setP s
  intro m
  induction m with
  | zero => intro j k x _ _ hk; exact absurd hk (by omega)
  | succ m ih =>
    intro j k x hx hj hm
    rw [F_M_wordHere_2, hx]
    unfold F_M_wordHere_31 F_M_wordHere_43
    cases j with
    | zero =>
      rw [if_pos (show (15 : Int32) ≤ nI k from nI_le (a := 15) (by omega) (by omega)), if_pos (show (15 : Int32) ≤ nI k from nI_le (a := 15) (by omega) (by omega))]
      rfl
    | succ j =>
      have c15 : ¬ (15 : Int32) ≤ nI k := nI_ge (b := 15) (by omega) (by omega)
      rw [if_neg c15, T.gi12, Option.bind_some, T.gi11, Option.bind_some, T.ob_, Option.bind_some, h11, h12, pk_sub hbe, M_isName M A (by omega) h11 hbe he hl, Option.bind_some, wF]
      dsimp only
      cases hb : nmB a k b e with
      | false =>
        rw [if_pos (by rfl), if_neg (by decide)]
        exact ih j (k + 1) _ (nI_1 k) (by omega) (by omega)
      | true => rw [if_neg (by decide), if_neg c15, if_pos rfl]
theorem M_letters (M : MM w h s0) (A : MA h a) (hn : n ≤ 120) {b : Nat} : ∀ (m k p : Nat) (s : Nat → Int32), s 9 = nI n → s 11 = nI b → s 12 = nI p → b ≤ p → p + k = n → k < m → (∀ i, b ≤ i → i < p → isL (a i)) → F_M_reads_76 m 49 (mP w s) = some (mP w (upd (upd s 12 (nI (ltS a k p))) 10 (nI (wF a b (ltS a k p) 15 0)))) := by
  intro m
  induction m with
  | zero => intro k p s _ _ _ _ _ hk; exact absurd hk (by omega)
  | succ m ih =>
    intro k p s h9 h11 h12 hb hk hm hl
    have T := M.setP s
    have fin : ltS a k p = p → (p < n → ¬ isL (a p)) → F_M_reads_76 (m + 1) 49 (mP w s) = some (mP w (upd (upd s 12 (nI (ltS a k p))) 10 (nI (wF a b (ltS a k p) 15 0)))) := by
      intro e1 e2
      have h1 := M_word_loop M A h11 h12 hb (by omega) hl FU 15 0 0 rfl (by omega) (by unfold FU; omega)
      rw [F_M_reads_76, T.gi12, Option.bind_some, T.ob_, Option.bind_some, h12, M_isByte M A hn h9 (p := p) (lo := 97) (hi := 122) (x := 97) (y := 122) (by omega) (by omega) (by omega) rfl rfl, Option.bind_some]
      dsimp only
      rw [if_pos (by rw [bI_0]; exact fun z => e2 z.1 z.2), T.ob_, Option.bind_some]
      unfold F_M_wordHere F_M_wordHere_0 F_M_reads_244
      rw [h1, Option.bind_some]
      dsimp only
      rw [T.pf_ (k := 10) (by omega), Option.bind_some, mP_mP, e1, ← h12, upd_i]
    cases k with
    | zero => exact fin rfl (fun z => by omega)
    | succ k =>
      by_cases c : isL (a p)
      · have T1 := M.setP (upd s 12 (nI (p + 1)))
        rw [F_M_reads_76, T.gi12, Option.bind_some, T.ob_, Option.bind_some, h12, M_isByte M A hn h9 (p := p) (lo := 97) (hi := 122) (x := 97) (y := 122) (by omega) (by omega) (by omega) rfl rfl, Option.bind_some]
        dsimp only
        rw [if_neg (bI_y ⟨by omega, c⟩), T.gi12, h12, Option.bind_some, T.pf_ (k := 12) (by omega), Option.bind_some, mP_mP, nI_1, ltS, if_pos c]
        rw [ih k (p + 1) _ (by rw [upd_n (by omega)]; exact h9) (by rw [upd_n (by omega)]; exact h11) upd_s (by omega) (by omega) (by omega) (fun i h1 h2 => by
          by_cases e : i = p
          · subst e; exact c
          · exact hl i h1 (by omega)), upd_u]
      · exact fin (by rw [ltS, if_neg c]) (fun _ => c)
theorem M_digits (M : MM w h s0) (A : MA h a) (hn : n ≤ 120) : ∀ (m k p v : Nat) (s : Nat → Int32), s 9 = nI n → s 12 = nI p → s 13 = nI v → v ≤ 99999 → p + k = n → k < m → F_M_reads_130 m 49 (mP w s) = some (mP w (upd (upd (upd s 13 (nI (dgS a k p v).2)) 12 (nI (dgS a k p v).1)) 10 20)) := by
  intro m
  induction m with
  | zero => intro k p v s _ _ _ _ _ hk; exact absurd hk (by omega)
  | succ m ih =>
    intro k p v s h9 h12 h13 hv hk hm
    have T := M.setP s
    have fin : dgS a k p v = (p, v) → (p < n → ¬ isD (a p)) → F_M_reads_130 (m + 1) 49 (mP w s) = some (mP w (upd (upd (upd s 13 (nI (dgS a k p v).2)) 12 (nI (dgS a k p v).1)) 10 20)) := by
      intro e1 e2
      rw [F_M_reads_130, T.gi12, Option.bind_some, T.ob_, Option.bind_some, h12, M_isByte M A hn h9 (p := p) (lo := 48) (hi := 57) (x := 48) (y := 57) (by omega) (by omega) (by omega) rfl rfl, Option.bind_some]
      dsimp only
      unfold F_M_reads_244
      rw [if_pos (by rw [bI_0]; exact fun z => e2 z.1 z.2), T.pf_ (k := 10) (by omega), Option.bind_some, mP_mP, e1]
      dsimp only
      rw [← h12, ← h13, upd_i, upd_i]
    cases k with
    | zero => exact fin rfl (fun z => by omega)
    | succ k =>
      by_cases c : isD (a p)
      · have c' := c
        unfold isD at c'
        have key : ∀ y : Int32, y = nI (dgV v (a p)) → F_M_reads_183 (F_M_reads_130 m) 49 49 y (mP w s) = some (mP w (upd (upd (upd s 13 (nI (dgS a k (p + 1) (dgV v (a p))).2)) 12 (nI (dgS a k (p + 1) (dgV v (a p))).1)) 10 20)) := by
          intro y hy
          subst hy
          have T1 := M.setP (upd s 13 (nI (dgV v (a p))))
          have bv : dgV v (a p) ≤ 99999 := by unfold dgV; split <;> omega
          unfold F_M_reads_183
          rw [T.pf_ (k := 13) (by omega), Option.bind_some, mP_mP, T1.gi12, Option.bind_some, upd_n (by omega), h12, T1.pf_ (k := 12) (by omega), Option.bind_some, mP_mP, nI_1]
          rw [ih k (p + 1) (dgV v (a p)) _ (by rw [upd_n (by omega), upd_n (by omega)]; exact h9) upd_s (by rw [upd_n (by omega), upd_s]) bv (by omega) (by omega)]
          congr 3
          rw [upd_c _ (show 12 ≠ 13 by omega), upd_u, upd_u]
        have ha := (A p (by omega)).2
        rw [F_M_reads_130, T.gi12, Option.bind_some, T.ob_, Option.bind_some, h12, M_isByte M A hn h9 (p := p) (lo := 48) (hi := 57) (x := 48) (y := 57) (by omega) (by omega) (by omega) rfl rfl, Option.bind_some, dgS, if_pos c]
        dsimp only
        rw [if_neg (bI_y ⟨by omega, c⟩), T.gi13, h13, Option.bind_some, Option.bind_some, T.gr8, Option.bind_some, T.gi12, h12, Option.bind_some, MA_rd M A s (by omega), Option.bind_some, Option.bind_some]
        by_cases c2 : v ≤ 9999
        · rw [if_pos (show nI v ≤ 9999 from nI_le (b := 9999) c2 (by omega))]
          refine key _ ?_
          rw [show (10 : Int32) * nI v = nI (10 * v) from pk_mul 10 _, nI_add]
          unfold dgV
          rw [if_neg (by omega)]
          exact pk_sub (b := 48) (by omega)
        · rw [if_neg (show ¬ nI v ≤ 9999 from nI_ge (a := 9999) (by omega) (by omega))]
          refine key _ ?_
          unfold dgV
          rw [if_pos (by omega)]
      · exact fin (by rw [dgS, if_neg c]) (fun _ => c)
theorem M_reads_loop (M : MM w h s0) (A : MA h a) (hn : n ≤ 120) : ∀ (m k p : Nat) (s : Nat → Int32), s 9 = nI n → s 12 = nI p → p + k = n → k < m → ∃ s', F_M_reads_0 m 49 (mP w s) = some (mP w s') ∧ MT n s' (tkb a n (skS a k p)) ∧ s' 14 = s 14 ∧ s' 3 = s 3 := by
  intro m
  induction m with
  | zero => intro k p s _ _ _ hk; exact absurd hk (by omega)
  | succ m ih =>
    intro k p s h9 h12 hk hm
    have T := M.setP s
    have fin : skS a k p = p → (p < n → ¬ a p = 32) → ∃ s', F_M_reads_0 (m + 1) 49 (mP w s) = some (mP w s') ∧ MT n s' (tkb a n (skS a k p)) ∧ s' 14 = s 14 ∧ s' 3 = s 3 := by
      intro e1 e2
      rw [e1, F_M_reads_0, T.gi12, Option.bind_some, T.ob_, Option.bind_some, h12, M_isByte M A hn h9 (p := p) (lo := 32) (hi := 32) (x := 32) (y := 32) (by omega) (by omega) (by omega) rfl rfl, Option.bind_some]
      dsimp only
      rw [if_pos (by rw [bI_0]; exact fun z => e2 z.1 (by omega)), T.gi12, h12, Option.bind_some, T.pf_ (k := 11) (by omega), Option.bind_some, mP_mP]
      have T1 := M.setP (upd s 11 (nI p))
      rw [T1.pf_ (k := 13) (by omega), Option.bind_some, mP_mP]
      have T2 := M.setP (upd (upd s 11 (nI p)) 13 0)
      generalize hu : upd (upd s 11 (nI p)) 13 0 = u at T2
      have u9 : u 9 = nI n := by rw [← hu, upd_n (by omega), upd_n (by omega)]; exact h9
      have u11 : u 11 = nI p := by rw [← hu, upd_n (by omega), upd_s]
      have u12 : u 12 = nI p := by rw [← hu, upd_n (by omega), upd_n (by omega)]; exact h12
      have u13 : u 13 = nI 0 := by rw [← hu, upd_s]; rfl
      have u14 : u 14 = s 14 := by rw [← hu, upd_n (by omega), upd_n (by omega)]
      have u3 : u 3 = s 3 := by rw [← hu, upd_n (by omega), upd_n (by omega)]
      rw [T2.gi12, u12, Option.bind_some, T2.gi9, u9, Option.bind_some]
      unfold F_M_reads_244 tkb
      by_cases c0 : p = n
      · rw [if_pos (by rw [c0]), T2.pf_ (k := 10) (by omega), Option.bind_some, mP_mP, if_pos c0]
        refine ⟨_, rfl, ⟨?_, upd_s, ?_, ?_, ?_⟩, ?_, ?_⟩
        · rw [upd_n (by omega)]; exact u9
        · rw [upd_n (by omega)]; exact u11
        · rw [upd_n (by omega)]; exact u12
        · rw [upd_n (by omega)]; exact u13
        · rw [upd_n (by omega)]; exact u14
        · rw [upd_n (by omega)]; exact u3
      · rw [if_neg (fun z => c0 ((nI_eq (by omega) (by omega)).mp z)), Option.bind_some, T2.ob_, Option.bind_some, M_isByte M A hn u9 (p := p) (lo := 97) (hi := 122) (x := 97) (y := 122) (by omega) (by omega) (by omega) rfl rfl, Option.bind_some, if_neg c0]
        dsimp only
        by_cases c1 : isL (a p)
        · have h1 := M_letters M A hn (b := p) FU (n - p) p u u9 u11 u12 (Nat.le_refl _) (by omega) (by unfold FU; omega) (fun i h1 h2 => by omega)
          rw [if_neg (bI_y ⟨by omega, c1⟩), h1, if_pos c1]
          refine ⟨_, rfl, ⟨?_, upd_s, ?_, ?_, ?_⟩, ?_, ?_⟩
          · rw [upd_n (by omega), upd_n (by omega)]; exact u9
          · rw [upd_n (by omega), upd_n (by omega)]; exact u11
          · rw [upd_n (by omega), upd_s]; rfl
          · rw [upd_n (by omega), upd_n (by omega)]; exact u13
          · rw [upd_n (by omega), upd_n (by omega)]; exact u14
          · rw [upd_n (by omega), upd_n (by omega)]; exact u3
        · rw [if_pos (by rw [bI_0]; exact fun z => c1 z.2), T2.gi12, u12, Option.bind_some, T2.ob_, Option.bind_some, M_isByte M A hn u9 (p := p) (lo := 48) (hi := 57) (x := 48) (y := 57) (by omega) (by omega) (by omega) rfl rfl, Option.bind_some, if_neg c1]
          dsimp only
          by_cases c2 : isD (a p)
          · have h1 := M_digits M A hn FU (n - p) p 0 u u9 u12 u13 (by omega) (by omega) (by unfold FU; omega)
            rw [if_neg (bI_y ⟨by omega, c2⟩), h1, if_pos c2]
            refine ⟨_, rfl, ⟨?_, upd_s, ?_, ?_, ?_⟩, ?_, ?_⟩
            · rw [upd_n (by omega), upd_n (by omega), upd_n (by omega)]; exact u9
            · rw [upd_n (by omega), upd_n (by omega), upd_n (by omega)]; exact u11
            · rw [upd_n (by omega), upd_s]; rfl
            · rw [upd_n (by omega), upd_n (by omega), upd_s]; rfl
            · rw [upd_n (by omega), upd_n (by omega), upd_n (by omega)]; exact u14
            · rw [upd_n (by omega), upd_n (by omega), upd_n (by omega)]; exact u3
          · rw [if_pos (by rw [bI_0]; exact fun z => c2 z.2), T2.gi12, u12, Option.bind_some, T2.ob_, Option.bind_some, M_isByte M A hn u9 (p := p) (lo := 59) (hi := 59) (x := 59) (y := 59) (by omega) (by omega) (by omega) rfl rfl, Option.bind_some, if_neg c2]
            dsimp only
            have key : ∀ y : Int32, F_M_reads_231 49 49 y (mP w u) = some (mP w (upd (upd u 10 y) 12 (nI (p + 1)))) := by
              intro y
              have T3 := M.setP (upd u 10 y)
              unfold F_M_reads_231 F_M_reads_244
              rw [T2.pf_ (k := 10) (by omega), Option.bind_some, mP_mP, T3.gi12, Option.bind_some, upd_n (by omega), u12, T3.pf_ (k := 12) (by omega), Option.bind_some, mP_mP, nI_1]
            have done : ∀ (y : Int32) (ct kd : Nat), y = nI kd → MT n (upd (upd u 10 y) 12 (nI (p + 1))) (ct, kd, p, p + 1, 0) ∧ (upd (upd u 10 y) 12 (nI (p + 1))) 14 = s 14 ∧ (upd (upd u 10 y) 12 (nI (p + 1))) 3 = s 3 := by
              intro y ct kd hy
              refine ⟨⟨?_, ?_, ?_, upd_s, ?_⟩, ?_, ?_⟩
              · rw [upd_n (by omega), upd_n (by omega)]; exact u9
              · rw [upd_n (by omega), upd_s]; exact hy
              · rw [upd_n (by omega), upd_n (by omega)]; exact u11
              · rw [upd_n (by omega), upd_n (by omega)]; exact u13
              · rw [upd_n (by omega), upd_n (by omega)]; exact u14
              · rw [upd_n (by omega), upd_n (by omega)]; exact u3
            by_cases c3 : a p = 59
            · rw [if_neg (bI_y ⟨by omega, by omega, by omega⟩), key, if_pos c3]
              exact ⟨_, rfl, done 21 3 21 rfl⟩
            · rw [if_pos (by rw [bI_0]; exact fun z => c3 (by omega)), key, if_neg c3]
              exact ⟨_, rfl, done 23 4 23 rfl⟩
    cases k with
    | zero => exact fin rfl (fun z => by omega)
    | succ k =>
      by_cases c : a p = 32
      · rw [F_M_reads_0, T.gi12, Option.bind_some, T.ob_, Option.bind_some, h12, M_isByte M A hn h9 (p := p) (lo := 32) (hi := 32) (x := 32) (y := 32) (by omega) (by omega) (by omega) rfl rfl, Option.bind_some, skS, if_pos c]
        dsimp only
        rw [if_neg (bI_y ⟨by omega, by omega, by omega⟩), T.gi12, h12, Option.bind_some, T.pf_ (k := 12) (by omega), Option.bind_some, mP_mP, nI_1]
        obtain ⟨s', i1, i2, i3, i4⟩ := ih k (p + 1) (upd s 12 (nI (p + 1))) (by rw [upd_n (by omega)]; exact h9) upd_s (by omega) (by omega)
        exact ⟨s', i1, i2, by rw [i3, upd_n (by omega)], by rw [i4, upd_n (by omega)]⟩
      · exact fin (by rw [skS, if_neg c]) (fun _ => c)
theorem M_reads (M : MM w h s0) (A : MA h a) (hn : n ≤ 120) {p : Nat} (hp : p ≤ n) {s : Nat → Int32} (h9 : s 9 = nI n) (h12 : s 12 = nI p) : ∃ s', F_M_reads 49 (mP w s) = some (mP w s') ∧ MT n s' (tk a n p) ∧ s' 14 = s 14 ∧ s' 3 = s 3 := M_reads_loop M A hn FU (n - p) p s h9 h12 (by omega) (by unfold FU; omega)
end MRD
