/-! THE SHEETS -/
def cW (w : A_W) (i : Nat) (c : Nat → Int32) : A_W := w.set (42 + 2 * i) (.inl (40, nf c i))
def oW (w : A_W) (i : Nat) (b z : Int32) : A_W := w.set (41 + 2 * i) (sobj i b z)
theorem cW_at {w : A_W} {i : Nat} {c : Nat → Int32} {a : Nat} (ha : a ≠ 42 + 2 * i) : (cW w i c)[a]? = w[a]? := List.getElem?_set_ne (Ne.symm ha)
theorem oW_at {w : A_W} {i : Nat} {b z : Int32} {a : Nat} (ha : a ≠ 41 + 2 * i) : (oW w i b z)[a]? = w[a]? := List.getElem?_set_ne (Ne.symm ha)
section SHE
variable {w : A_W} {lk : Int32} {fd b z c q tp : Nat → Int32}
theorem KX_cW (h : KX w lk fd b z c q tp) {i : Nat} (hi : i < 4) {c' : Nat → Int32} (hc : ∀ j, j < 4 → j ≠ i → nf c' j = nf c j) : KX (cW w i c') lk fd b z c' q tp := by
  obtain ⟨h1, h2, h3, ⟨f, h4, h5⟩, h6, h7⟩ := h
  refine ⟨by rw [cW_at (by omega)]; exact h1, by rw [cW_at (by omega)]; exact h2, by rw [cW_at (by omega)]; exact h3, ⟨f, by rw [cW_at (by omega)]; exact h4, h5⟩, by rw [cW_at (by omega)]; exact h6, fun j hj => ⟨by rw [cW_at (by omega)]; exact (h7 j hj).1, ?_⟩⟩
  by_cases e : j = i
  · subst e; exact List.getElem?_set_self (List.getElem?_eq_some_iff.mp (h7 j hj).2).1
  · rw [cW_at (by omega), hc j hj e]; exact (h7 j hj).2
theorem KX_oW (h : KX w lk fd b z c q tp) {i : Nat} (hi : i < 4) (b' z' : Int32) : KX (oW w i b' z') lk fd (upd b i b') (upd z i z') c q tp := by
  obtain ⟨h1, h2, h3, ⟨f, h4, h5⟩, h6, h7⟩ := h
  refine ⟨by rw [oW_at (by omega)]; exact h1, by rw [oW_at (by omega)]; exact h2, by rw [oW_at (by omega)]; exact h3, ⟨f, by rw [oW_at (by omega)]; exact h4, h5⟩, by rw [oW_at (by omega)]; exact h6, fun j hj => ⟨?_, by rw [oW_at (by omega)]; exact (h7 j hj).2⟩⟩
  by_cases e : j = i
  · subst e; rw [upd_s, upd_s]; exact List.getElem?_set_self (List.getElem?_eq_some_iff.mp (h7 j hj).1).1
  · rw [oW_at (by omega), upd_n e, upd_n e]; exact (h7 j hj).1
theorem KX.g5 (K : KX w lk fd b z c q tp) : gr w 0 0 5 = some 39 := by unfold gr gf; rw [K.1]; rfl
theorem KX.g0 (K : KX w lk fd b z c q tp) : gr w 0 0 0 = some 1 := by unfold gr gf; rw [K.1]; rfl
theorem KX.g1 (K : KX w lk fd b z c q tp) : gr w 0 0 1 = some 13 := by unfold gr gf; rw [K.1]; rfl
theorem KX.ob_ (K : KX w lk fd b z c q tp) : ∃ f, ob w 0 0 = some f := ⟨_, by unfold ob; rw [K.1]; rfl⟩
theorem KX.ra_ (K : KX w lk fd b z c q tp) {i : Nat} (hi : i < 4) {x : Int32} (hx : x = nI i) : ra w 39 x = some (41 + 2 * i) := by
  obtain ⟨f, h4, h5⟩ := K.2.2.2.1
  subst hx
  unfold ra
  rw [h4]
  show (if inb (nI i) 4 then f (nI i).toNatClampNeg else none) = _
  rw [if_pos (inb_nI hi (by omega)), nI_clamp (by omega), h5 i hi]
theorem KX.sob (K : KX w lk fd b z c q tp) {i : Nat} (hi : i < 4) : ob w (41 + 2 * i) 3 = some [.int (b i), .int (z i), .ref (42 + 2 * i)] := by unfold ob; rw [(K.2.2.2.2.2 i hi).1]; rfl
theorem KX.sgf (K : KX w lk fd b z c q tp) {i : Nat} (hi : i < 4) (k : Nat) : gf w (41 + 2 * i) 3 k = ([.int (b i), .int (z i), .ref (42 + 2 * i)] : List Value)[k]? := by unfold gf; rw [(K.2.2.2.2.2 i hi).1]; rfl
theorem KX.s0 (K : KX w lk fd b z c q tp) {i : Nat} (hi : i < 4) : gi w (41 + 2 * i) 3 0 = some (b i) := by unfold gi; rw [K.sgf hi]; rfl
theorem KX.s1 (K : KX w lk fd b z c q tp) {i : Nat} (hi : i < 4) : gi w (41 + 2 * i) 3 1 = some (z i) := by unfold gi; rw [K.sgf hi]; rfl
theorem KX.s2 (K : KX w lk fd b z c q tp) {i : Nat} (hi : i < 4) : gr w (41 + 2 * i) 3 2 = some (42 + 2 * i) := by unfold gr; rw [K.sgf hi]; rfl
theorem KX.srd (K : KX w lk fd b z c q tp) {i k : Nat} (hi : i < 4) (hk : k < 40) {x : Int32} (hx : x = nI k) : rd w (42 + 2 * i) x = some (c (40 * i + k)) := by
  subst hx
  unfold rd
  rw [(K.2.2.2.2.2 i hi).2]
  show (if inb (nI k) 40 then some (nf c i (nI k).toNatClampNeg) else none) = _
  rw [if_pos (inb_nI hk (by omega)), nI_clamp (by omega)]
  unfold nf
  rw [if_pos hk]
theorem nf_upd (c : Nat → Int32) {i k : Nat} (hk : k < 40) (v : Int32) : nf (upd c (40 * i + k) v) i = upd (nf c i) k v := by
  funext j
  unfold nf
  by_cases e : j = k
  · subst e; rw [if_pos hk, upd_s, upd_s]
  · rw [upd_n e]
    split
    · rw [upd_n (by omega)]
    · rfl
theorem nf_upo (c : Nat → Int32) {i k j : Nat} (hk : k < 40) (hj : j ≠ i) (v : Int32) : nf (upd c (40 * i + k) v) j = nf c j := by
  funext l
  unfold nf
  split
  · rw [upd_n (by omega)]
  · rfl
theorem KX.swr (K : KX w lk fd b z c q tp) {i k : Nat} (hi : i < 4) (hk : k < 40) {x : Int32} (hx : x = nI k) (v : Int32) : wr w (42 + 2 * i) x v = some (cW w i (upd c (40 * i + k) v)) := by
  subst hx
  unfold wr
  rw [(K.2.2.2.2.2 i hi).2]
  show (if inb (nI k) 40 then some (w.set (42 + 2 * i) (.inl (40, upd (nf c i) (nI k).toNatClampNeg v))) else none) = _
  rw [if_pos (inb_nI hk (by omega)), nI_clamp (by omega), ← nf_upd c hk]
  rfl
theorem KX.miss (K : KX w lk fd b z c q tp) {i : Nat} (hi : i < 4) : F_S_isMissing (41 + 2 * i) w = some (bI (b i = 0), w) := by
  unfold F_S_isMissing F_S_isMissing_0 F_S_isMissing_12
  rw [K.s0 hi, Option.bind_some]
  unfold bI
  split <;> rfl
end SHE
theorem FI_loop {v : Int32} {a n : Nat} (hn : n < 1000) : ∀ (m k d : Nat) (w : A_W) (f : Nat → Int32) (x : Int32), w[a]? = some (.inl (n, f)) → x = nI d → d + k = n → k < m → F_JA_fill_5 m a v x (nI n) w = some (w.set a (.inl (n, fun j => if d ≤ j ∧ j < n then v else f j))) := by
  intro m
  induction m with
  | zero => intro k d w f x _ _ _ hk; exact absurd hk (by omega)
  | succ m ih =>
    intro k d w f x hw hx hk hm
    rw [F_JA_fill_5, hx]
    cases k with
    | zero =>
      rw [if_pos (nI_le (by omega) (by omega))]
      have e : (fun j => if d ≤ j ∧ j < n then v else f j) = f := by funext j; rw [if_neg (by omega)]
      rw [e]
      congr 1
      refine List.ext_getElem? fun j => ?_
      by_cases e2 : j = a
      · subst e2; rw [List.getElem?_set_self (List.getElem?_eq_some_iff.mp hw).1, hw]
      · rw [List.getElem?_set_ne (Ne.symm e2)]
    | succ k =>
      rw [if_neg (fun z => by rw [nI_leI (by omega) (by omega)] at z; omega)]
      have hwr : wr w a (nI d) v = some (w.set a (.inl (n, upd f d v))) := by
        unfold wr
        rw [hw]
        show (if inb (nI d) n then some (w.set a (.inl (n, upd f (nI d).toNatClampNeg v))) else none) = _
        rw [if_pos (inb_nI (by omega) (by omega)), nI_clamp (by omega)]
      rw [hwr, Option.bind_some, ih k (d + 1) _ (upd f d v) _ (List.getElem?_set_self (List.getElem?_eq_some_iff.mp hw).1) (nI_1 d) (by omega) (by omega), List.set_set]
      congr 4
      funext j
      by_cases e : j = d
      · subst e; rw [if_neg (by omega), if_pos (by omega), upd_s]
      · rw [upd_n e]
        by_cases e2 : d ≤ j ∧ j < n
        · rw [if_pos e2, if_pos (by omega)]
        · rw [if_neg e2, if_neg (by omega)]
theorem JA_fill {w : A_W} {a n : Nat} {f : Nat → Int32} (hn : n < 1000) (hw : w[a]? = some (.inl (n, f))) (v : Int32) : F_JA_fill a v w = some (w.set a (.inl (n, fun j => if j < n then v else f j))) := by
  unfold F_JA_fill F_JA_fill_0
  have ea : al w a = some (nI n) := by unfold al; rw [hw]; rfl
  have h1 := FI_loop (v := v) (a := a) hn FU n 0 w f 0 hw rfl (by omega) (by unfold FU; omega)
  rw [ea, Option.bind_some, h1]
  congr 4
  funext j
  by_cases e : j < n
  · rw [if_pos (by omega), if_pos e]
  · rw [if_neg (by omega), if_neg e]
/-- a sheet's cells become 0 -/
def clr (c : Nat → Int32) (i : Nat) : Nat → Int32 := fun k => if 40 * i ≤ k ∧ k < 40 * i + 40 then 0 else c k
theorem nf_clr (c : Nat → Int32) (i : Nat) : nf (clr c i) i = fun j => if j < 40 then 0 else nf c i j := by
  funext j
  unfold nf clr
  split
  · rw [if_pos (by omega)]
  · rfl
theorem nf_clo (c : Nat → Int32) {i j : Nat} (hj : j ≠ i) : nf (clr c i) j = nf c j := by
  funext k
  unfold nf clr
  split
  · rw [if_neg (by omega)]
  · rfl
theorem S_begin {w : A_W} {lk : Int32} {fd b z c q tp : Nat → Int32} (K : KX w lk fd b z c q tp) {i : Nat} (hi : i < 4) (b' z' : Int32) : F_S_begin (41 + 2 * i) b' z' w = some (cW (oW w i b' z') i (clr c i)) := by
  unfold F_S_begin F_S_begin_0
  have e1 : pf w (41 + 2 * i) 3 0 (.int b') = some (oW w i b' (z i)) := by unfold pf; rw [(K.2.2.2.2.2 i hi).1]; rfl
  have K1 := KX_oW K hi b' (z i)
  have e2 : pf (oW w i b' (z i)) (41 + 2 * i) 3 1 (.int z') = some (oW w i b' z') := by
    unfold pf
    rw [(K1.2.2.2.2.2 i hi).1]
    show some ((oW w i b' (z i)).set (41 + 2 * i) (sobj i (upd b i b' i) z')) = _
    unfold oW
    rw [List.set_set, upd_s]
  have K2 := KX_oW K hi b' z'
  rw [e1, Option.bind_some, e2, Option.bind_some, K2.s2 hi, Option.bind_some, JA_fill (n := 40) (f := nf c i) (by omega) (K2.2.2.2.2.2 i hi).2, Option.bind_some, ← nf_clr]
  rfl
section SHM
variable {w : A_W} {h : Nat → Nat → Int32} {s : Nat → Int32}
theorem M_isSheet (x : Int32) (w : A_W) : F_M_isSheet x w = some (bI (0 ≤ x ∧ x ≤ 3), w) := by
  unfold F_M_isSheet F_M_isSheet_0; rw [M_in, Option.bind_some, bz_bI]; rfl
theorem MM.rd4 (hM : MM w h s) {i : Nat} (hi : i < 4) {x : Int32} (hx : x = nI i) : rd w 54 x = some (h 4 i) := hM.rdN (a := 4) (by omega) hi (by decide) hx
theorem MM.rd5 (hM : MM w h s) {i : Nat} (hi : i < 4) {x : Int32} (hx : x = nI i) : rd w 55 x = some (h 5 i) := hM.rdN (a := 5) (by omega) hi (by decide) hx
theorem MM.wr4 (hM : MM w h s) {i : Nat} (hi : i < 4) {x : Int32} (hx : x = nI i) (v : Int32) : wr w 54 x v = some (mW w 4 (upd (h 4) i v)) := hM.wrN (a := 4) (by omega) hi (by decide) hx v
theorem MM.wr5 (hM : MM w h s) {i : Nat} (hi : i < 4) {x : Int32} (hx : x = nI i) (v : Int32) : wr w 55 x v = some (mW w 5 (upd (h 5) i v)) := hM.wrN (a := 5) (by omega) hi (by decide) hx v
theorem n40 {i k : Nat} : (40 : Int32) * nI i + nI k = nI (40 * i + k) := by rw [show (40 : Int32) * nI i = nI (40 * i) from pk_mul 40 i, nI_add]
theorem MM.rd6 (hM : MM w h s) {k : Nat} (hk : k < 160) {x : Int32} (hx : x = nI k) : rd w 56 x = some (h 6 k) := hM.rdN (a := 6) (by omega) hk (by decide) hx
theorem MM.wr6 (hM : MM w h s) {k : Nat} (hk : k < 160) {x : Int32} (hx : x = nI k) (v : Int32) : wr w 56 x v = some (mW w 6 (upd (h 6) k v)) := hM.wrN (a := 6) (by omega) hk (by decide) hx v
theorem M_notThere (hM : MM w h s) (x : Int32) : F_M_notThere 49 x w = if 0 ≤ x ∧ x ≤ 3 then some (if h 4 x.toNatClampNeg = 0 then -1000006 else 0, w) else some (-1000001, w) := by
  unfold F_M_notThere F_M_notThere_0 F_M_notThere_27
  simp only [M_isSheet, Option.bind_some, bI_0]
  by_cases c : 0 ≤ x ∧ x ≤ 3
  · rw [if_neg (fun z => z c), if_pos c]
    obtain ⟨i, -, hi, rfl⟩ := btw (m := 0) (n := 3) rfl rfl (by omega) (by omega) c
    simp only [hM.gr5, Option.bind_some, hM.rd4 (i := i) (by omega) rfl]
    rw [nI_clamp (by omega)]
    split <;> rfl
  · rw [if_pos c, if_neg c]
theorem clr_c (c u : Nat → Int32) {i k : Nat} (hk : k < 40) (h1 : ∀ j, j < 40 * i + k → c j = clr u i j) (h2 : ∀ j, 40 * i + k ≤ j → c j = u j) : (∀ j, j < 40 * i + (k + 1) → upd c (40 * i + k) 0 j = clr u i j) ∧ (∀ j, 40 * i + (k + 1) ≤ j → upd c (40 * i + k) 0 j = u j) := by
  refine ⟨fun j hj => ?_, fun j hj => ?_⟩
  · by_cases e : j = 40 * i + k
    · subst e; rw [upd_s]; unfold clr; rw [if_pos (by omega)]
    · rw [upd_n e]; exact h1 j (by omega)
  · rw [upd_n (by omega)]; exact h2 j (by omega)
theorem M_sheet_loop {i : Nat} (hi : i < 4) {u : Nat → Int32} : ∀ (m k d : Nat) (w : A_W) (h : Nat → Nat → Int32) (x : Int32), MM w h s → x = nI d → d + k = 40 → k < m → (∀ j, j < 40 * i + d → h 6 j = clr u i j) → (∀ j, 40 * i + d ≤ j → h 6 j = u j) → F_M_sheet_85 m 49 (nI i) x w = some (h 5 i, mW w 6 (clr u i)) := by
  intro m
  induction m with
  | zero => intro k d w h x _ _ _ hk; exact absurd hk (by omega)
  | succ m ih =>
    intro k d w h x hM hx hk hm h1 h2
    rw [F_M_sheet_85, hx]
    cases k with
    | zero =>
      rw [if_pos (show (40 : Int32) ≤ nI d from nI_le (a := 40) (by omega) (by omega))]
      simp only [hM.gr6, Option.bind_some, hM.rd5 hi rfl]
      have e : clr u i = h 6 := by
        funext j
        by_cases e : j < 40 * i + d
        · exact (h1 j e).symm
        · rw [h2 j (by omega)]; unfold clr; rw [if_neg (by omega)]
      rw [e, hM.mW_id (by omega)]
    | succ k =>
      rw [if_neg (show ¬ (40 : Int32) ≤ nI d from nI_ge (b := 40) (by omega) (by omega))]
      simp only [hM.gr7, Option.bind_some, n40, hM.wr6 (k := 40 * i + d) (by omega) rfl]
      have hs := clr_c (h 6) u (i := i) (k := d) (by omega) h1 h2
      have h3 := ih k (d + 1) _ _ (nI d + 1) (hM.set (a := 6) (by omega) (upd (h 6) (40 * i + d) 0)) (nI_1 d) (by omega) (by omega) (by rw [hset_self]; exact hs.1) (by rw [hset_self]; exact hs.2)
      rw [hset_ne _ _ (by omega), mW_mW] at h3
      exact h3
theorem M_sheet_81 (hM : MM w h s) {i : Nat} (hi : i < 4) (v : Int32) : F_M_sheet_81 49 (nI i) 55 (nI i) v w = some (v, mW (mW w 5 (upd (h 5) i v)) 6 (clr (h 6) i)) := by
  unfold F_M_sheet_81
  have M1 := hM.set (a := 5) (by omega) (upd (h 5) i v)
  have h1 := M_sheet_loop (s := s) hi (u := h 6) FU 40 0 _ _ 0 M1 rfl (by omega) (by unfold FU; omega) (fun j hj => by rw [hset_ne _ _ (by omega)]; unfold clr; rw [if_neg (by omega)]) (fun j _ => by rw [hset_ne _ _ (by omega)])
  rw [hM.wr5 hi rfl, Option.bind_some, h1, hset_self, upd_s]
end SHM
/-- the sheets' part of the relation -/
theorem RelX.sheet {w : A_W} {h : Nat → Nat → Int32} {s g2 g3 q : Nat → Int32} (R : RelX w h s g2 g3 q) {i : Nat} (hi : i < 4) (b' z' : Int32) : RelX (mW (mW (mW (cW (oW w i b' z') i (clr (h 6) i)) 4 (upd (h 4) i b')) 5 (upd (h 5) i z')) 6 (clr (h 6) i)) (hset (hset (hset h 4 (upd (h 4) i b')) 5 (upd (h 5) i z')) 6 (clr (h 6) i)) s g2 g3 q := by
  obtain ⟨M, K, R1, R2, R3⟩ := R
  have F := ((mW_Fr (cW (oW w i b' z') i (clr (h 6) i)) 4 (upd (h 4) i b')).tr (mW_Fr _ 5 (upd (h 5) i z'))).tr (mW_Fr _ 6 (clr (h 6) i))
  have M0 : MM (cW (oW w i b' z') i (clr (h 6) i)) h s := M.fr (fun k hk => by rw [cW_at (by omega), oW_at (by omega)])
  have rr : ∀ {t : Nat} {g : Nat → Int32}, RC w t g → t + 11 < 40 → RC (cW (oW w i b' z') i (clr (h 6) i)) t g := fun hR ht => hR.fr (fun a _ h2 => by rw [cW_at (by omega), oW_at (by omega)])
  refine ⟨((M0.set (by omega) _).set (by omega) _).set (by omega) _, ?_, ?_, RC_Fr (rr R2 (by omega)) (by omega) F, RC_Fr (rr R3 (by omega)) (by omega) F⟩
  · have e3 : (hset (hset (hset h 4 (upd (h 4) i b')) 5 (upd (h 5) i z')) 6 (clr (h 6) i)) 3 = h 3 := by rw [hset_ne _ _ (by omega), hset_ne _ _ (by omega), hset_ne _ _ (by omega)]
    have e4 : (hset (hset (hset h 4 (upd (h 4) i b')) 5 (upd (h 5) i z')) 6 (clr (h 6) i)) 4 = upd (h 4) i b' := by rw [hset_ne _ _ (by omega), hset_ne _ _ (by omega), hset_self]
    have e5 : (hset (hset (hset h 4 (upd (h 4) i b')) 5 (upd (h 5) i z')) 6 (clr (h 6) i)) 5 = upd (h 5) i z' := by rw [hset_ne _ _ (by omega), hset_self]
    have e7 : (hset (hset (hset h 4 (upd (h 4) i b')) 5 (upd (h 5) i z')) 6 (clr (h 6) i)) 7 = h 7 := by rw [hset_ne _ _ (by omega), hset_ne _ _ (by omega), hset_ne _ _ (by omega)]
    rw [e3, e4, e5, hset_self, e7]
    exact KX_Fr (KX_cW (KX_oW K hi b' z') hi (fun j _ hj => nf_clo _ hj)) F
  · rw [hset_ne _ _ (by omega), hset_ne _ _ (by omega), hset_ne _ _ (by omega)]; exact RC_Fr (rr R1 (by omega)) (by omega) F
/-- cells of a sheet -/
theorem RelX.cells {w : A_W} {h : Nat → Nat → Int32} {s g2 g3 q : Nat → Int32} (R : RelX w h s g2 g3 q) {i : Nat} (hi : i < 4) {c' : Nat → Int32} (hc : ∀ j, j < 4 → j ≠ i → nf c' j = nf (h 6) j) : RelX (mW (cW w i c') 6 c') (hset h 6 c') s g2 g3 q := by
  obtain ⟨M, K, R1, R2, R3⟩ := R
  have F := mW_Fr (cW w i c') 6 c'
  have M0 : MM (cW w i c') h s := M.fr (fun k hk => cW_at (by omega))
  have rr : ∀ {t : Nat} {g : Nat → Int32}, RC w t g → t + 11 < 40 → RC (cW w i c') t g := fun hR ht => hR.fr (fun a _ h2 => cW_at (by omega))
  refine ⟨M0.set (by omega) _, ?_, ?_, RC_Fr (rr R2 (by omega)) (by omega) F, RC_Fr (rr R3 (by omega)) (by omega) F⟩
  · rw [hset_ne _ _ (by omega), hset_ne _ _ (by omega), hset_ne _ _ (by omega), hset_self, hset_ne _ _ (by omega)]
    exact KX_Fr (KX_cW K hi hc) F
  · rw [hset_ne _ _ (by omega)]; exact RC_Fr (rr R1 (by omega)) (by omega) F
theorem Gd_cells {h : Nat → Nat → Int32} {s g3 q : Nat → Int32} (G : Gd h s g3 q) (f : Nat → Int32) : Gd (hset h 6 f) s g3 q := by
  have e : ∀ a, a ≠ 6 → hset h 6 f a = h a := fun a ha => hset_ne h f ha
  unfold Gd
  rw [e 0 (by omega), e 1 (by omega), e 4 (by omega), e 5 (by omega), e 7 (by omega)]
  exact G
theorem SP_cells {T : Type} {w : A_W} {h : Nat → Nat → Int32} {s : Nat → Int32} {g2 g3 q : Nat → Int32} (R : RelX w h s g2 g3 q) (G : Gd h s g3 q) {a b : A_W → Option (T × A_W)} {i : Nat} (hi : i < 4) {c' : Nat → Int32} (hc : ∀ j, j < 4 → j ≠ i → nf c' j = nf (h 6) j) {r1 r2 : T} (ha : a w = some (r1, cW w i c')) (hb : MM (cW w i c') h s → b (cW w i c') = some (r2, mW (cW w i c') 6 c')) (e : r1 = r2) : ∃ p1 p2 : T × A_W, a w = some p1 ∧ b p1.2 = some p2 ∧ p1.1 = p2.1 ∧ Rel p2.2 ∧ ∃ f, ob p1.2 49 4 = some f :=
  have M0 : MM (cW w i c') h s := R.1.fr (fun k hk => cW_at (by omega))
  ⟨_, _, ha, hb M0, e, ⟨_, _, _, _, _, R.cells hi hc, Gd_cells G _⟩, _, M0.ob_⟩
