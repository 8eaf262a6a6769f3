/-! THE RELATION between the class's cells (0 .. 48) and the model's (49 .. 57) -/
def kobj (lk : Int32) : A_E := .inr (.inr (0, [.ref 1, .ref 13, .ref 25, .int lk, .ref 37, .ref 39, .ref 40]))
def dobj (q : Nat → Int32) : A_E := .inr (.inr (1, [.ref 38, .int (q 0), .int (q 1), .int (q 2), .int (q 3), .int (q 4)]))
def sobj (i : Nat) (b z : Int32) : A_E := .inr (.inr (3, [.int b, .int z, .ref (42 + 2 * i)]))
/-- a sheet's numbers out of the model's one row -/
def nf (c : Nat → Int32) (i : Nat) : Nat → Int32 := fun k => if k < 40 then c (40 * i + k) else 0
/-- the class's cells that aren't rooms -/
def KX (w : A_W) (lk : Int32) (fd : Nat → Int32) (b z c : Nat → Int32) (q tp : Nat → Int32) : Prop :=
  w[0]? = some (kobj lk) ∧ w[37]? = some (dobj q) ∧ w[38]? = some (.inl (120, tp)) ∧ (∃ f, w[39]? = some (.inr (.inl (4, f))) ∧ ∀ i, i < 4 → f i = some (41 + 2 * i)) ∧ w[40]? = some (.inl (7, fd)) ∧ ∀ i, i < 4 → w[41 + 2 * i]? = some (sobj i (b i) (z i)) ∧ w[42 + 2 * i]? = some (.inl (40, nf c i))
/-- what is so of the numbers -/
def Gd (h : Nat → Nat → Int32) (s : Nat → Int32) (g3 q : Nat → Int32) : Prop :=
  Wf (h 0) ∧ (s 3 = 0 ∨ s 3 = 1) ∧ (s 3 = 1 → Wf (h 1) ∧ ∀ i, i < 87 → g3 i = h 1 i) ∧ (∀ i, i < 4 → (h 4 i = 0 ∨ h 4 i = 8 ∨ h 4 i = 16 ∨ h 4 i = 32) ∧ (∃ n : Nat, n ≤ 40 ∧ h 5 i = nI n) ∧ (h 4 i = 0 → h 5 i = 0)) ∧ (∃ n : Nat, n ≤ 120 ∧ s 9 = nI n) ∧ q 0 = s 9 ∧ ∀ i, i < 120 → 0 ≤ (h 7 i).toInt ∧ (h 7 i).toInt ≤ 255
def RelX (w : A_W) (h : Nat → Nat → Int32) (s : Nat → Int32) (g2 g3 q : Nat → Int32) : Prop :=
  MM w h s ∧ KX w (s 3) (h 3) (h 4) (h 5) (h 6) q (h 7) ∧ RC w 1 (h 0) ∧ RC w 13 g2 ∧ RC w 25 g3
def Rel (w : A_W) : Prop := ∃ h s g2 g3 q, RelX w h s g2 g3 q ∧ Gd h s g3 q
theorem Rel_ob {w : A_W} (h : Rel w) : ∃ f, ob w 0 0 = some f := by
  obtain ⟨h, s, g2, g3, q, ⟨-, K, -⟩, -⟩ := h
  exact ⟨_, by unfold ob; rw [K.1]; rfl⟩
/-! frames -/
theorem KX.fr {w w1 : A_W} {lk : Int32} {fd b z c q tp : Nat → Int32} (h : KX w lk fd b z c q tp) (hf : ∀ a, (a = 0 ∨ (37 ≤ a ∧ a < 49)) → w1[a]? = w[a]?) : KX w1 lk fd b z c q tp := by
  obtain ⟨h1, h2, h3, ⟨f, h4, h5⟩, h6, h7⟩ := h
  exact ⟨by rw [hf 0 (by omega)]; exact h1, by rw [hf 37 (by omega)]; exact h2, by rw [hf 38 (by omega)]; exact h3, ⟨f, by rw [hf 39 (by omega)]; exact h4, h5⟩, by rw [hf 40 (by omega)]; exact h6, fun i hi => ⟨by rw [hf _ (by omega)]; exact (h7 i hi).1, by rw [hf _ (by omega)]; exact (h7 i hi).2⟩⟩
theorem rW_lo {w : A_W} {t : Nat} {g : Nat → Int32} (ht : t + 11 < 49) {a : Nat} (ha : 49 ≤ a) : (rW w t g)[a]? = w[a]? := rW_at (by omega)
theorem MM_rW {w : A_W} {h : Nat → Nat → Int32} {s : Nat → Int32} (hM : MM w h s) {t : Nat} (ht : t + 11 < 49) (g : Nat → Int32) : MM (rW w t g) h s := hM.fr (fun _ hk => rW_lo ht hk)
theorem RC_Fr {w w1 : A_W} {t : Nat} {g : Nat → Int32} (hR : RC w t g) (ht : t + 11 < 49) (hf : FrM w w1) : RC w1 t g := hR.fr (fun a _ h2 => hf a (by omega))
theorem KX_Fr {w w1 : A_W} {lk : Int32} {fd b z c q tp : Nat → Int32} (h : KX w lk fd b z c q tp) (hf : FrM w w1) : KX w1 lk fd b z c q tp := h.fr (fun a ha => hf a (by omega))
theorem RC_rW {w : A_W} {t u : Nat} {g f : Nat → Int32} (hR : RC w t g) (hd : t + 11 < u ∨ u + 11 < t) : RC (rW w u f) t g := hR.fr (fun a h1 h2 => rW_at (by omega))
theorem KX_rW {w : A_W} {lk : Int32} {fd b z c q tp : Nat → Int32} (h : KX w lk fd b z c q tp) {t : Nat} (h1 : 1 ≤ t) (h2 : t + 11 < 37) (g : Nat → Int32) : KX (rW w t g) lk fd b z c q tp := h.fr (fun a ha => rW_at (by omega))
section RLX
variable {w : A_W} {h : Nat → Nat → Int32} {s : Nat → Int32} {g2 g3 q : Nat → Int32}
/-- both rooms become f -/
theorem RelX.row (R : RelX w h s g2 g3 q) (f : Nat → Int32) : RelX (mW (rW w 1 f) 0 f) (hset h 0 f) s g2 g3 q := by
  obtain ⟨M, K, R1, R2, R3⟩ := R
  have F := mW_Fr (rW w 1 f) 0 f
  have e : ∀ a, a ≠ 0 → hset h 0 f a = h a := fun a ha => hset_ne h f ha
  refine ⟨(MM_rW M (by omega) f).set (by omega) f, ?_, ?_, ?_, ?_⟩
  · rw [e 3 (by omega), e 4 (by omega), e 5 (by omega), e 6 (by omega), e 7 (by omega)]
    exact KX_Fr (KX_rW K (by omega) (by omega) f) F
  · rw [hset_self]; exact RC_Fr (R1.set f) (by omega) F
  · exact RC_Fr (RC_rW R2 (by omega)) (by omega) F
  · exact RC_Fr (RC_rW R3 (by omega)) (by omega) F
theorem RelX.trial (R : RelX w h s g2 g3 q) (f : Nat → Int32) : RelX (rW w 13 f) h s f g3 q := by
  obtain ⟨M, K, R1, R2, R3⟩ := R
  exact ⟨MM_rW M (by omega) f, KX_rW K (by omega) (by omega) f, RC_rW R1 (by omega), R2.set f, RC_rW R3 (by omega)⟩
theorem RelX.was (R : RelX w h s g2 g3 q) (f : Nat → Int32) : RelX (mW w 2 f) (hset h 2 f) s g2 g3 q := by
  obtain ⟨M, K, R1, R2, R3⟩ := R
  have F := mW_Fr w 2 f
  have e : ∀ a, a ≠ 2 → hset h 2 f a = h a := fun a ha => hset_ne h f ha
  refine ⟨M.set (by omega) f, ?_, ?_, RC_Fr R2 (by omega) F, RC_Fr R3 (by omega) F⟩
  · rw [e 3 (by omega), e 4 (by omega), e 5 (by omega), e 6 (by omega), e 7 (by omega)]
    exact KX_Fr K F
  · rw [e 0 (by omega)]; exact RC_Fr R1 (by omega) F
def fW (w : A_W) (f : Nat → Int32) : A_W := w.set 40 (.inl (7, f))
theorem fW_at {f : Nat → Int32} {a : Nat} (ha : a ≠ 40) : (fW w f)[a]? = w[a]? := List.getElem?_set_ne (Ne.symm ha)
theorem MM_fW (hM : MM w h s) (f : Nat → Int32) : MM (fW w f) h s := hM.fr (fun k hk => fW_at (by omega))
theorem RelX.found (R : RelX w h s g2 g3 q) (f : Nat → Int32) : RelX (mW (fW w f) 3 f) (hset h 3 f) s g2 g3 q := by
  obtain ⟨M, ⟨h1, h2, h3, ⟨u, h4, h5⟩, h6, h7⟩, R1, R2, R3⟩ := R
  have F := mW_Fr (fW w f) 3 f
  have e : ∀ a, a ≠ 3 → hset h 3 f a = h a := fun a ha => hset_ne h f ha
  have rr : ∀ {t : Nat} {g : Nat → Int32}, RC w t g → t + 11 < 40 → RC (mW (fW w f) 3 f) t g := fun hR ht => RC_Fr (hR.fr (fun a _ h2 => fW_at (by omega))) (by omega) F
  refine ⟨(MM_fW M f).set (by omega) f, ?_, ?_, rr R2 (by omega), rr R3 (by omega)⟩
  · rw [hset_self, e 4 (by omega), e 5 (by omega), e 6 (by omega), e 7 (by omega)]
    refine KX_Fr ⟨?_, ?_, ?_, ⟨u, ?_, h5⟩, ?_, fun i hi => ⟨?_, ?_⟩⟩ F
    · rw [fW_at (by omega)]; exact h1
    · rw [fW_at (by omega)]; exact h2
    · rw [fW_at (by omega)]; exact h3
    · rw [fW_at (by omega)]; exact h4
    · exact List.getElem?_set_self (List.getElem?_eq_some_iff.mp h6).1
    · rw [fW_at (by omega)]; exact (h7 i hi).1
    · rw [fW_at (by omega)]; exact (h7 i hi).2
  · rw [e 0 (by omega)]; exact rr R1 (by omega)
theorem RelX.kob (R : RelX w h s g2 g3 q) : ob w 0 0 = some [.ref 1, .ref 13, .ref 25, .int (s 3), .ref 37, .ref 39, .ref 40] := by unfold ob; rw [R.2.1.1]; rfl
theorem RelX.kgf (R : RelX w h s g2 g3 q) (k : Nat) : gf w 0 0 k = ([.ref 1, .ref 13, .ref 25, .int (s 3), .ref 37, .ref 39, .ref 40] : List Value)[k]? := by unfold gf; rw [R.2.1.1]; rfl
theorem RelX.kg0 (R : RelX w h s g2 g3 q) : gr w 0 0 0 = some 1 := by unfold gr; rw [R.kgf]; rfl
theorem RelX.kg1 (R : RelX w h s g2 g3 q) : gr w 0 0 1 = some 13 := by unfold gr; rw [R.kgf]; rfl
theorem RelX.kg2 (R : RelX w h s g2 g3 q) : gr w 0 0 2 = some 25 := by unfold gr; rw [R.kgf]; rfl
theorem RelX.kg3 (R : RelX w h s g2 g3 q) : gi w 0 0 3 = some (s 3) := by unfold gi; rw [R.kgf]; rfl
theorem RelX.kg4 (R : RelX w h s g2 g3 q) : gr w 0 0 4 = some 37 := by unfold gr; rw [R.kgf]; rfl
theorem RelX.kg5 (R : RelX w h s g2 g3 q) : gr w 0 0 5 = some 39 := by unfold gr; rw [R.kgf]; rfl
theorem RelX.kg6 (R : RelX w h s g2 g3 q) : gr w 0 0 6 = some 40 := by unfold gr; rw [R.kgf]; rfl
/-- a finding, counted -/
def bmp (h : Nat → Nat → Int32) (i : Nat) : Nat → Int32 := upd (h 3) i (h 3 i + 1)
theorem K_finding (R : RelX w h s g2 g3 q) {i : Nat} (hi : i < 7) {x : Int32} (hx : x = nI i) : F_K_finding 0 x w = some ((-1000001) - x, fW w (bmp h i)) := by
  unfold F_K_finding F_K_finding_0
  have hb : inb x 7 := by rw [hx]; exact inb_nI hi (by omega)
  have e1 : rd w 40 x = some (h 3 i) := by unfold rd; rw [R.2.1.2.2.2.2.1]; show (if inb x 7 then some (h 3 x.toNatClampNeg) else none) = _; rw [if_pos hb, hx, nI_clamp (by omega)]
  have e2 : ∀ v, wr w 40 x v = some (fW w (upd (h 3) i v)) := fun v => by unfold wr; rw [R.2.1.2.2.2.2.1]; show (if inb x 7 then some (w.set 40 (.inl (7, upd (h 3) x.toNatClampNeg v))) else none) = _; rw [if_pos hb, hx, nI_clamp (by omega)]; rfl
  simp only [R.kg6, Option.bind_some, e1, e2]
  rfl
theorem M_finds (hM : MM w h s) {i : Nat} (hi : i < 7) {v : Int32} (hv : (-1000001) - v = nI i) : F_M_finds 49 v w = some (v, mW w 3 (bmp h i)) := by
  unfold F_M_finds F_M_finds_0
  have e1 : rd w 53 (nI i) = some (h 3 i) := hM.rdN (a := 3) (by omega) hi (by decide) rfl
  have e2 : ∀ u, wr w 53 (nI i) u = some (mW w 3 (upd (h 3) i u)) := fun u => hM.wrN (a := 3) (by omega) hi (by decide) rfl u
  simp only [hM.gr4, Option.bind_some, hv, e1, e2]
  rfl
theorem Gd_found (G : Gd h s g3 q) (f : Nat → Int32) : Gd (hset h 3 f) s g3 q := by
  have e : ∀ a, a ≠ 3 → hset h 3 f a = h a := fun a ha => hset_ne h f ha
  unfold Gd
  rw [e 0 (by omega), e 1 (by omega), e 4 (by omega), e 5 (by omega), e 7 (by omega)]
  exact G
theorem Gd_was (G : Gd h s g3 q) (f : Nat → Int32) : Gd (hset h 2 f) s g3 q := by
  have e : ∀ a, a ≠ 2 → hset h 2 f a = h a := fun a ha => hset_ne h f ha
  unfold Gd
  rw [e 0 (by omega), e 1 (by omega), e 4 (by omega), e 5 (by omega), e 7 (by omega)]
  exact G
theorem Gd_row (G : Gd h s g3 q) {f : Nat → Int32} (hf : Wf f) : Gd (hset h 0 f) s g3 q := by
  have e : ∀ a, a ≠ 0 → hset h 0 f a = h a := fun a ha => hset_ne h f ha
  unfold Gd
  rw [hset_self, e 1 (by omega), e 4 (by omega), e 5 (by omega), e 7 (by omega)]
  exact ⟨hf, G.2⟩
theorem Rel_found (R : RelX w h s g2 g3 q) (G : Gd h s g3 q) (f : Nat → Int32) : Rel (mW (fW w f) 3 f) := ⟨_, _, _, _, _, R.found f, Gd_found G f⟩
theorem Rel_row (R : RelX w h s g2 g3 q) (G : Gd h s g3 q) {f : Nat → Int32} (hf : Wf f) : Rel (mW (rW w 1 f) 0 f) := ⟨_, _, _, _, _, R.row f, Gd_row G hf⟩
theorem Rel_id (R : RelX w h s g2 g3 q) (G : Gd h s g3 q) : Rel w := ⟨_, _, _, _, _, R, G⟩
end RLX
/-- both answer with the same finding -/
theorem SP_fd {T : Type} {w : A_W} {h : Nat → Nat → Int32} {s : Nat → Int32} {g2 g3 q : Nat → Int32} (R : RelX w h s g2 g3 q) (G : Gd h s g3 q) {a b : A_W → Option (T × A_W)} {i : Nat} {r1 r2 : T} (ha : a w = some (r1, fW w (bmp h i))) (hb : MM (fW w (bmp h i)) h s → b (fW w (bmp h i)) = some (r2, mW (fW w (bmp h i)) 3 (bmp h i))) (e : r1 = r2) : ∃ p1 p2 : T × A_W, a w = some p1 ∧ b p1.2 = some p2 ∧ p1.1 = p2.1 ∧ Rel p2.2 ∧ ∃ f, ob p1.2 49 4 = some f :=
  ⟨_, _, ha, hb (MM_fW R.1 _), e, Rel_found R G _, _, (MM_fW R.1 _).ob_⟩
/-- both answer alike, and nothing changes -/
theorem SP_id {T : Type} {w : A_W} {h : Nat → Nat → Int32} {s : Nat → Int32} {g2 g3 q : Nat → Int32} (R : RelX w h s g2 g3 q) (G : Gd h s g3 q) {a b : A_W → Option (T × A_W)} {r1 r2 : T} (ha : a w = some (r1, w)) (hb : b w = some (r2, w)) (e : r1 = r2) : ∃ p1 p2 : T × A_W, a w = some p1 ∧ b p1.2 = some p2 ∧ p1.1 = p2.1 ∧ Rel p2.2 ∧ ∃ f, ob p1.2 49 4 = some f :=
  ⟨_, _, ha, hb, e, Rel_id R G, _, R.1.ob_⟩
/-- both rooms become f -/
theorem SP_row {T : Type} {w : A_W} {h : Nat → Nat → Int32} {s : Nat → Int32} {g2 g3 q : Nat → Int32} (R : RelX w h s g2 g3 q) (G : Gd h s g3 q) {a b : A_W → Option (T × A_W)} {f : Nat → Int32} (hf : Wf f) {r1 r2 : T} (ha : a w = some (r1, rW w 1 f)) (hb : MM (rW w 1 f) h s → b (rW w 1 f) = some (r2, mW (rW w 1 f) 0 f)) (e : r1 = r2) : ∃ p1 p2 : T × A_W, a w = some p1 ∧ b p1.2 = some p2 ∧ p1.1 = p2.1 ∧ Rel p2.2 ∧ ∃ f, ob p1.2 49 4 = some f :=
  ⟨_, _, ha, hb (MM_rW R.1 (by omega) _), e, Rel_row R G hf, _, (MM_rW R.1 (by omega) _).ob_⟩
theorem K_within (x a b : Int32) (w : A_W) : F_K_within x a b w = some (bI (a ≤ x ∧ x ≤ b), w) := by
  unfold F_K_within F_K_within_0 F_K_within_14 F_K_within_15 bI
  by_cases h1 : x < a
  · rw [if_pos h1, if_neg (fun z => Int32.not_le.mpr h1 z.1)]; rfl
  · rw [if_neg h1]
    by_cases h2 : b < x
    · rw [if_pos h2, if_neg (fun z => Int32.not_le.mpr h2 z.2)]; rfl
    · rw [if_neg h2, if_pos ⟨Int32.not_lt.mp h1, Int32.not_lt.mp h2⟩]; rfl
theorem K_isHanger (x : Int32) (w : A_W) : F_K_isHanger x w = some (bI (0 ≤ x ∧ x ≤ 15), w) := by
  unfold F_K_isHanger F_K_isHanger_0; rw [K_within, Option.bind_some, bz_bI]; rfl
theorem K_isKind (x : Int32) (w : A_W) : F_K_isKind x w = some (bI (0 ≤ x ∧ x ≤ 6), w) := by
  unfold F_K_isKind F_K_isKind_0; rw [K_within, Option.bind_some, bz_bI]; rfl
theorem K_isSpot (x : Int32) (w : A_W) : F_K_isSpot x w = some (bI (0 ≤ x ∧ x ≤ 9), w) := by
  unfold F_K_isSpot F_K_isSpot_0; rw [K_within, Option.bind_some, bz_bI]; rfl
theorem K_isSheet (x : Int32) (w : A_W) : F_K_isSheet x w = some (bI (0 ≤ x ∧ x ≤ 3), w) := by
  unfold F_K_isSheet F_K_isSheet_0; rw [K_within, Option.bind_some, bz_bI]; rfl
theorem R_hasDeposit {w : A_W} {t : Nat} {g : Nat → Int32} (hR : RC w t g) (x : Int32) : F_R_hasDeposit t x w = some (bI (0 ≤ x ∧ x ≤ g 3 - 1), w) := by
  unfold F_R_hasDeposit F_R_hasDeposit_0
  rw [hR.gi3, Option.bind_some, K_within, Option.bind_some, bz_bI]; rfl
theorem R_hasGirl {w : A_W} {t : Nat} {g : Nat → Int32} (hR : RC w t g) (x : Int32) : F_R_hasGirl t x w = some (bI (0 ≤ x ∧ x ≤ g 4 - 1), w) := by
  unfold F_R_hasGirl F_R_hasGirl_0
  rw [hR.gi4, Option.bind_some, K_within, Option.bind_some, bz_bI]; rfl
/-- between two written numbers: a number -/
theorem btw {x a b : Int32} {m n : Nat} (ha : a = nI m) (hb : b = nI n) (hn : n < 2 ^ 31) (hm : m ≤ n) (h : a ≤ x ∧ x ≤ b) : ∃ k : Nat, m ≤ k ∧ k ≤ n ∧ x = nI k := by
  subst ha; subst hb
  have h1 := Int32.le_iff_toInt_le.mp h.1
  have h2 := Int32.le_iff_toInt_le.mp h.2
  rw [nI_toInt (by omega)] at h1 h2
  refine ⟨x.toNatClampNeg, ?_, ?_, nI_of_bd (n := n) (by omega) h2⟩
  · show m ≤ x.toInt.toNat; omega
  · show x.toInt.toNat ≤ n; omega
