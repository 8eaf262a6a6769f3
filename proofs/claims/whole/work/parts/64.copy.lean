/-! A ROOM BECOMES ANOTHER; the model's row is copied -/
def cpR (a b : Nat → Int32) : Nat → Int32 := fun i => if i < 87 then a i else b i
def mixK (k : Nat) (a b : Nat → Int32) : Nat → Int32 := fun n => if n < 5 ∨ (n < 87 ∧ kOf n ≤ k) then a n else b n
theorem rW_row {w : A_W} {t : Nat} {f g : Nat → Int32} (h : ∀ i, i < 87 → f i = g i) : rW w t f = rW w t g := by
  refine List.ext_getElem? fun a => ?_
  rw [rW_g, rW_g]
  cases w[a]? with
  | none => rfl
  | some c =>
    show some (rcell t f a c) = some (rcell t g a c)
    congr 1
    unfold rcell
    split
    · unfold robj rfs; rw [h 0 (by omega), h 1 (by omega), h 2 (by omega), h 3 (by omega), h 4 (by omega)]
    · split
      · rename_i hc
        congr 2
        funext i
        unfold cf
        split
        · rename_i hi; exact h _ (rix_bd (a - t) (by omega) (by omega) i hi).2
        · rfl
      · rfl
theorem cf_mix {k : Nat} (h1 : 1 ≤ k) (h2 : k ≤ 11) (m : Nat) (a b : Nat → Int32) : cf k (mixK m a b) = if k ≤ m then cf k a else cf k b := by
  funext i
  unfold cf
  by_cases hi : i < rlen k
  · have hb := rix_bd k (by omega) h1 i hi
    have hk := (rix_inv k (by omega) i hi).1
    rw [if_pos hi]
    unfold mixK
    rw [hk]
    by_cases c : k ≤ m
    · rw [if_pos (Or.inr ⟨hb.2, c⟩), if_pos c, if_pos hi]
    · rw [if_neg (by omega), if_neg c, if_pos hi]
  · rw [if_neg hi]
    split <;> exact (if_neg hi).symm
theorem R_cp {w : A_W} {t u k : Nat} {a b : Nat → Int32} (hR : RC w t (mixK (k - 1) a b)) (hU : RC w u a) (h1 : 1 ≤ k) (h2 : k ≤ 11) {n : Int32} (hn : n = nI (rlen k)) : cp w (u + k) 0 (t + k) 0 n = some (rW w t (mixK k a b)) := by
  have hl := rlen_bd k (by omega)
  subst hn
  unfold cp
  rw [hU.2 k h1 h2]
  dsimp only
  rw [hR.2 k h1 h2]
  dsimp only
  have z0 : (0 : Int32).toNatClampNeg = 0 := rfl
  rw [nI_clamp (by omega), z0, if_pos ⟨⟨by decide, by decide, nI_pos (by omega)⟩, by omega, by omega⟩]
  congr 1
  have hlen := (List.getElem?_eq_some_iff.mp (hR.2 k h1 h2)).1
  refine hR.eqW ⟨?_, fun k1 h3 h4 => ?_⟩ (fun x hx => List.getElem?_set_ne (by omega))
  · rw [List.getElem?_set_ne (by omega), hR.1]
    unfold robj rfs mixK
    rfl
  · by_cases e : k1 = k
    · subst e
      rw [List.getElem?_set_self hlen, cf_mix h3 h4 k1, if_pos (Nat.le_refl _)]
      congr 3
      funext j
      unfold va_cpy
      by_cases hj : j < rlen k1
      · rw [if_pos (by omega)]; congr 1; omega
      · rw [if_neg (by omega)]; unfold cf; rw [if_neg hj, if_neg hj]
    · rw [List.getElem?_set_ne (by omega), hR.2 k1 h3 h4, cf_mix h3 h4, cf_mix h3 h4]
      by_cases c : k1 ≤ k
      · rw [if_pos c, if_pos (by omega)]
      · rw [if_neg c, if_neg (by omega)]
theorem mix0 (a b : Nat → Int32) : upd (upd (upd (upd (upd b 0 (a 0)) 1 (a 1)) 2 (a 2)) 3 (a 3)) 4 (a 4) = mixK 0 a b := by
  funext n
  unfold mixK upd
  have hk : ¬ kOf n ≤ 0 := by unfold kOf; split <;> (try split) <;> (try split) <;> omega
  by_cases h4 : n = 4
  · subst h4; rfl
  · rw [if_neg h4]
    by_cases h3 : n = 3
    · subst h3; rfl
    · rw [if_neg h3]
      by_cases h2 : n = 2
      · subst h2; rfl
      · rw [if_neg h2]
        by_cases h1 : n = 1
        · subst h1; rfl
        · rw [if_neg h1]
          by_cases h0 : n = 0
          · subst h0; rfl
          · rw [if_neg h0, if_neg (by omega)]
theorem R_become {w : A_W} {t u : Nat} {a b : Nat → Int32} (hR : RC w t b) (hU : RC w u a) (hd : t + 11 < u ∨ u + 11 < t) : F_R_become t u w = some (rW w t a) := by
  unfold F_R_become F_R_become_0
  have U : ∀ f, RC (rW w t f) u a := fun f => RC_rW hU (by omega)
  have T : ∀ f, RC (rW w t f) t f := fun f => hR.set f
  simp only [hU.gi0, Option.bind_some, hR.pf_ (j := 0) (by omega), (U _).gi1, (T _).pf_ (j := 1) (by omega), rW_rW, (U _).gi2, (T _).pf_ (j := 2) (by omega), (U _).gi3, (T _).pf_ (j := 3) (by omega), (U _).gi4, (T _).pf_ (j := 4) (by omega), mix0]
  have cc : ∀ k, 1 ≤ k → k ≤ 11 → ∀ n : Int32, n = nI (rlen k) → cp (rW w t (mixK (k - 1) a b)) (u + k) 0 (t + k) 0 n = some (rW w t (mixK k a b)) := by
    intro k h1 h2 n hn
    have := R_cp (T (mixK (k - 1) a b)) (U _) h1 h2 hn
    rwa [rW_rW] at this
  have c1 : cp (rW w t (mixK 0 a b)) (u + 1) 0 (t + 1) 0 6 = some (rW w t (mixK 1 a b)) := cc 1 (by omega) (by omega) 6 rfl
  have c2 : cp (rW w t (mixK 1 a b)) (u + 2) 0 (t + 2) 0 8 = some (rW w t (mixK 2 a b)) := cc 2 (by omega) (by omega) 8 rfl
  have c3 : cp (rW w t (mixK 2 a b)) (u + 3) 0 (t + 3) 0 8 = some (rW w t (mixK 3 a b)) := cc 3 (by omega) (by omega) 8 rfl
  have c4 : cp (rW w t (mixK 3 a b)) (u + 4) 0 (t + 4) 0 8 = some (rW w t (mixK 4 a b)) := cc 4 (by omega) (by omega) 8 rfl
  have c5 : cp (rW w t (mixK 4 a b)) (u + 5) 0 (t + 5) 0 8 = some (rW w t (mixK 5 a b)) := cc 5 (by omega) (by omega) 8 rfl
  have c6 : cp (rW w t (mixK 5 a b)) (u + 6) 0 (t + 6) 0 8 = some (rW w t (mixK 6 a b)) := cc 6 (by omega) (by omega) 8 rfl
  have c7 : cp (rW w t (mixK 6 a b)) (u + 7) 0 (t + 7) 0 8 = some (rW w t (mixK 7 a b)) := cc 7 (by omega) (by omega) 8 rfl
  have c8 : cp (rW w t (mixK 7 a b)) (u + 8) 0 (t + 8) 0 6 = some (rW w t (mixK 8 a b)) := cc 8 (by omega) (by omega) 6 rfl
  have c9 : cp (rW w t (mixK 8 a b)) (u + 9) 0 (t + 9) 0 6 = some (rW w t (mixK 9 a b)) := cc 9 (by omega) (by omega) 6 rfl
  have c10 : cp (rW w t (mixK 9 a b)) (u + 10) 0 (t + 10) 0 6 = some (rW w t (mixK 10 a b)) := cc 10 (by omega) (by omega) 6 rfl
  have c11 : cp (rW w t (mixK 10 a b)) (u + 11) 0 (t + 11) 0 10 = some (rW w t (mixK 11 a b)) := cc 11 (by omega) (by omega) 10 rfl
  simp only [(U _).gr5, (T _).gr5, Option.bind_some, c1, (U _).gr6, (T _).gr6, c2, (U _).gr7, (T _).gr7, c3, (U _).gr8, (T _).gr8, c4, (U _).gr9, (T _).gr9, c5, (U _).gr10, (T _).gr10, c6, (U _).gr11, (T _).gr11, c7, (U _).gr12, (T _).gr12, c8, (U _).gr13, (T _).gr13, c9, (U _).gr14, (T _).gr14, c10, (U _).gr15, (T _).gr15, c11]
  congr 1
  refine rW_row fun i hi => ?_
  unfold mixK
  rw [if_pos]
  by_cases h5 : i < 5
  · exact Or.inl h5
  · refine Or.inr ⟨hi, ?_⟩
    unfold kOf
    split
    · omega
    · split
      · omega
      · split <;> omega
section CPM
variable {s : Nat → Int32}
def cpN (a b : Nat → Int32) (n : Nat) : Nat → Int32 := fun i => if i < n then a i else b i
theorem M_copy_loop {a b : Nat} (ha : a < 3) (hb : b < 3) (hab : a ≠ b) : ∀ (m k d : Nat) (w : A_W) (h : Nat → Nat → Int32) (x : Int32) (u : Nat → Int32), MM w h s → x = nI d → d + k = 87 → k < m → (∀ i, i < d → h b i = h a i) → (∀ i, d ≤ i → h b i = u i) → F_M_copyAll_2 m (50 + a) (50 + b) x w = some (mW w b (cpR (h a) u)) := by
  intro m
  induction m with
  | zero => intro k d w h x u _ _ _ hk; exact absurd hk (by omega)
  | succ m ih =>
    intro k d w h x u hM hx hk hm h1 h2
    have la : mlen a = 87 := by rcases (show a = 0 ∨ a = 1 ∨ a = 2 by omega) with rfl | rfl | rfl <;> rfl
    have lb : mlen b = 87 := by rcases (show b = 0 ∨ b = 1 ∨ b = 2 by omega) with rfl | rfl | rfl <;> rfl
    rw [F_M_copyAll_2, hx]
    cases k with
    | zero =>
      rw [if_pos (show (87 : Int32) ≤ nI d from nI_le (a := 87) (by omega) (by omega))]
      have e : cpR (h a) u = h b := by
        funext i
        unfold cpR
        split
        · exact (h1 i (by omega)).symm
        · exact (h2 i (by omega)).symm
      rw [e, hM.mW_id (by omega)]
    | succ k =>
      rw [if_neg (show ¬ (87 : Int32) ≤ nI d from nI_ge (b := 87) (by omega) (by omega))]
      simp only [hM.rdN (a := a) (i := d) (x := nI d) (by omega) (by omega) (by omega) rfl, hM.wrN (a := b) (i := d) (x := nI d) (by omega) (by omega) (by omega) rfl, Option.bind_some]
      have h3 := ih k (d + 1) _ _ (nI d + 1) u (hM.set (a := b) (by omega) (upd (h b) d (h a d))) (nI_1 d) (by omega) (by omega) (fun i hi => ?_) (fun i hi => ?_)
      · rw [hset_ne h _ hab, mW_mW] at h3
        exact h3
      · rw [hset_self, hset_ne h _ hab]
        by_cases e : i = d
        · subst e; rw [upd_s]
        · rw [upd_n e]; exact h1 i (by omega)
      · rw [hset_self, upd_n (by omega)]; exact h2 i (by omega)
theorem M_copyAll {w : A_W} {h : Nat → Nat → Int32} (hM : MM w h s) {a b : Nat} (ha : a < 3) (hb : b < 3) (hab : a ≠ b) {x y : Nat} (hx : x = 50 + a) (hy : y = 50 + b) : F_M_copyAll x y w = some (mW w b (cpR (h a) (h b))) := by
  subst hx; subst hy
  exact M_copy_loop ha hb hab FU 87 0 w h 0 (h b) hM rfl (by omega) (by unfold FU; omega) (fun i hi => absurd hi (by omega)) (fun i _ => rfl)
theorem M_thinks {w : A_W} {h : Nat → Nat → Int32} (hM : MM w h s) : F_M_thinks 49 w = some (mW w 2 (cpR (h 0) (h 2))) := by
  unfold F_M_thinks F_M_thinks_0
  simp only [hM.gr0, hM.gr2, Option.bind_some, M_copyAll hM (a := 0) (b := 2) (x := 50) (y := 52) (by omega) (by omega) (by omega) rfl rfl]
theorem M_putsBack {w : A_W} {h : Nat → Nat → Int32} (hM : MM w h s) : F_M_putsBack 49 w = some (mW w 0 (cpR (h 2) (h 0))) := by
  unfold F_M_putsBack F_M_putsBack_0
  simp only [hM.gr0, hM.gr2, Option.bind_some, M_copyAll hM (a := 2) (b := 0) (x := 52) (y := 50) (by omega) (by omega) (by omega) rfl rfl]
end CPM
/-! what lies behind the row's end never changes -/
def Tl (f g : Nat → Int32) : Prop := ∀ i, 87 ≤ i → g i = f i
theorem Tl.rf (f : Nat → Int32) : Tl f f := fun _ _ => rfl
theorem Tl.tr {a b c : Nat → Int32} (h : Tl a b) (h1 : Tl b c) : Tl a c := fun i hi => (h1 i hi).trans (h i hi)
theorem Tl.up {f g : Nat → Int32} (h : Tl f g) {i : Nat} (hi : i < 87) (v : Int32) : Tl f (upd g i v) := fun j hj => by rw [upd_n (by omega)]; exact h j hj
theorem stn_Tl {f : Nat → Int32} (h : Wf f) : Tl f (stn f) := fun i hi => stn_at (by omega) (Wf_grl h).1
theorem ag1_Tl {f : Nat → Int32} {d : Nat} (hd : d < 8) : Tl f (ag1 f d) := fun i hi => ag1_at (by omega) (by omega)
theorem agN_Tl : ∀ (k d : Nat) (f : Nat → Int32), d + k ≤ 8 → Tl f (agN k d f) := by
  intro k
  induction k with
  | zero => intro d f _; exact Tl.rf f
  | succ k ih => intro d f hd; exact (ag1_Tl (by omega)).tr (ih (d + 1) _ (by omega))
theorem GOES_Tl {f : Nat → Int32} (h : Wf f) : Tl f (GOES f) := ((stn_Tl h).tr ((Tl.rf (stn f)).up (i := 1) (by omega) _)).tr (Tl.up (agN_Tl _ _ _ (by have := Wf_dep h; omega)) (by omega) _)
theorem GON_Tl : ∀ (n : Nat) (f : Nat → Int32), Wf f → Tl f (GON n f) := by
  intro n
  induction n with
  | zero => intro f _; exact Tl.rf f
  | succ n ih => intro f h; exact (GOES_Tl h).tr (ih _ (GOES_Wf h))
theorem cpR_back {f g u : Nat → Int32} (h : Tl f g) : cpR (cpR f u) g = f := by
  funext i
  unfold cpR
  by_cases hi : i < 87
  · rw [if_pos hi, if_pos hi]
  · rw [if_neg hi]; exact h i (by omega)
/-- the model thinks, changes its row, and puts it back -/
theorem M_back {w : A_W} {h : Nat → Nat → Int32} {s : Nat → Int32} (hM : MM w h s) {g : Nat → Int32} (hg : Tl (h 0) g) : F_M_putsBack 49 (mW (mW w 2 (cpR (h 0) (h 2))) 0 g) = some (mW w 2 (cpR (h 0) (h 2))) := by
  have h1 := hM.set (a := 2) (by omega) (cpR (h 0) (h 2))
  have h2 := h1.set (a := 0) (by omega) g
  have h3 := M_putsBack h2
  rw [hset_self, hset_ne _ _ (by omega), hset_self, mW_mW, cpR_back hg] at h3
  have e : (hset h 2 (cpR (h 0) (h 2))) 0 = h 0 := hset_ne _ _ (by omega)
  have h4 := h1.mW_id (a := 0) (by omega)
  rw [e] at h4
  rw [h4] at h3
  exact h3
