/-! THE MODEL'S CELLS: its object at 49, its rows at 50 .. 57; and numbers -/
def mlen (a : Nat) : Nat := ([87, 87, 87, 7, 4, 4, 160, 120] : List Nat).getD a 0
def mobj (s : Nat → Int32) : A_E := .inr (.inr (4, [.ref 50, .ref 51, .ref 52, .int (s 3), .ref 53, .ref 54, .ref 55, .ref 56, .ref 57, .int (s 9), .int (s 10), .int (s 11), .int (s 12), .int (s 13), .int (s 14)]))
def MM (w : A_W) (h : Nat → Nat → Int32) (s : Nat → Int32) : Prop := w[49]? = some (mobj s) ∧ ∀ a, a < 8 → w[50 + a]? = some (.inl (mlen a, h a))
def hset (h : Nat → Nat → Int32) (a : Nat) (g : Nat → Int32) : Nat → Nat → Int32 := fun b => if b = a then g else h b
/-- a row of the model is put in its place -/
def mW (w : A_W) (a : Nat) (g : Nat → Int32) : A_W := w.set (50 + a) (.inl (mlen a, g))
/-- the model's numbers are put in their places -/
def mP (w : A_W) (s : Nat → Int32) : A_W := w.set 49 (mobj s)
/-- what lies ahead of the model stays -/
def FrM (w w1 : A_W) : Prop := ∀ k, k < 49 → w1[k]? = w[k]?
theorem FrM.rf {w : A_W} : FrM w w := fun _ _ => rfl
theorem FrM.tr {a b c : A_W} (h : FrM a b) (h1 : FrM b c) : FrM a c := fun k hk => (h1 k hk).trans (h k hk)
theorem mW_Fr (w : A_W) (a : Nat) (g : Nat → Int32) : FrM w (mW w a g) := fun k hk => List.getElem?_set_ne (by omega)
theorem mP_Fr (w : A_W) (s : Nat → Int32) : FrM w (mP w s) := fun k hk => List.getElem?_set_ne (by omega)
theorem mW_mW (w : A_W) (a : Nat) (f g : Nat → Int32) : mW (mW w a f) a g = mW w a g := by simp [mW]
theorem mP_mP (w : A_W) (s u : Nat → Int32) : mP (mP w s) u = mP w u := by simp [mP]
theorem hset_self (h : Nat → Nat → Int32) (a : Nat) (g : Nat → Int32) : hset h a g a = g := by simp [hset]
theorem hset_ne (h : Nat → Nat → Int32) {a b : Nat} (g : Nat → Int32) (e : b ≠ a) : hset h a g b = h b := by simp [hset, e]
theorem MM.len {w : A_W} {h : Nat → Nat → Int32} {s : Nat → Int32} (hM : MM w h s) : 57 < w.length := (List.getElem?_eq_some_iff.mp (hM.2 7 (by omega))).1
theorem MM.set {w : A_W} {h : Nat → Nat → Int32} {s : Nat → Int32} (hM : MM w h s) {a : Nat} (ha : a < 8) (g : Nat → Int32) : MM (mW w a g) (hset h a g) s := by
  have hl := hM.len
  refine ⟨?_, fun b hb => ?_⟩
  · unfold mW; rw [List.getElem?_set_ne (by omega)]; exact hM.1
  · unfold mW hset
    by_cases e : b = a
    · subst e; rw [List.getElem?_set_self (by omega), if_pos rfl]
    · rw [List.getElem?_set_ne (by omega), if_neg e]; exact hM.2 b hb
theorem MM.setP {w : A_W} {h : Nat → Nat → Int32} {s : Nat → Int32} (hM : MM w h s) (u : Nat → Int32) : MM (mP w u) h u := by
  have hl := hM.len
  refine ⟨?_, fun b hb => ?_⟩
  · unfold mP; rw [List.getElem?_set_self (by omega)]
  · unfold mP; rw [List.getElem?_set_ne (by omega)]; exact hM.2 b hb
theorem MM.mW_id {w : A_W} {h : Nat → Nat → Int32} {s : Nat → Int32} (hM : MM w h s) {a : Nat} (ha : a < 8) : mW w a (h a) = w := by
  unfold mW
  refine List.ext_getElem? fun k => ?_
  by_cases e : k = 50 + a
  · subst e; rw [List.getElem?_set_self (List.getElem?_eq_some_iff.mp (hM.2 a ha)).1]; exact (hM.2 a ha).symm
  · rw [List.getElem?_set_ne (Ne.symm e)]
theorem MM.fr {w w1 : A_W} {h : Nat → Nat → Int32} {s : Nat → Int32} (hM : MM w h s) (hf : ∀ k, 49 ≤ k → w1[k]? = w[k]?) : MM w1 h s := ⟨by rw [hf 49 (by omega)]; exact hM.1, fun a ha => by rw [hf _ (by omega)]; exact hM.2 a ha⟩
section MMS
variable {w : A_W} {h : Nat → Nat → Int32} {s : Nat → Int32}
def mfs (s : Nat → Int32) : List Value := [.ref 50, .ref 51, .ref 52, .int (s 3), .ref 53, .ref 54, .ref 55, .ref 56, .ref 57, .int (s 9), .int (s 10), .int (s 11), .int (s 12), .int (s 13), .int (s 14)]
theorem MM.ob_ (hM : MM w h s) : ob w 49 4 = some (mfs s) := by unfold ob; rw [hM.1]; rfl
theorem MM.gf_ (hM : MM w h s) (k : Nat) : gf w 49 4 k = (mfs s)[k]? := by unfold gf; rw [hM.1]; rfl
theorem MM.gr0 (hM : MM w h s) : gr w 49 4 0 = some 50 := by unfold gr; rw [hM.gf_]; rfl
theorem MM.gr1 (hM : MM w h s) : gr w 49 4 1 = some 51 := by unfold gr; rw [hM.gf_]; rfl
theorem MM.gr2 (hM : MM w h s) : gr w 49 4 2 = some 52 := by unfold gr; rw [hM.gf_]; rfl
theorem MM.gr4 (hM : MM w h s) : gr w 49 4 4 = some 53 := by unfold gr; rw [hM.gf_]; rfl
theorem MM.gr5 (hM : MM w h s) : gr w 49 4 5 = some 54 := by unfold gr; rw [hM.gf_]; rfl
theorem MM.gr6 (hM : MM w h s) : gr w 49 4 6 = some 55 := by unfold gr; rw [hM.gf_]; rfl
theorem MM.gr7 (hM : MM w h s) : gr w 49 4 7 = some 56 := by unfold gr; rw [hM.gf_]; rfl
theorem MM.gr8 (hM : MM w h s) : gr w 49 4 8 = some 57 := by unfold gr; rw [hM.gf_]; rfl
theorem MM.gi3 (hM : MM w h s) : gi w 49 4 3 = some (s 3) := by unfold gi; rw [hM.gf_]; rfl
theorem MM.gi9 (hM : MM w h s) : gi w 49 4 9 = some (s 9) := by unfold gi; rw [hM.gf_]; rfl
theorem MM.gi10 (hM : MM w h s) : gi w 49 4 10 = some (s 10) := by unfold gi; rw [hM.gf_]; rfl
theorem MM.gi11 (hM : MM w h s) : gi w 49 4 11 = some (s 11) := by unfold gi; rw [hM.gf_]; rfl
theorem MM.gi12 (hM : MM w h s) : gi w 49 4 12 = some (s 12) := by unfold gi; rw [hM.gf_]; rfl
theorem MM.gi13 (hM : MM w h s) : gi w 49 4 13 = some (s 13) := by unfold gi; rw [hM.gf_]; rfl
theorem MM.gi14 (hM : MM w h s) : gi w 49 4 14 = some (s 14) := by unfold gi; rw [hM.gf_]; rfl
theorem MM.pf_ (hM : MM w h s) {k : Nat} (hk : k = 3 ∨ (9 ≤ k ∧ k < 15)) (v : Int32) : pf w 49 4 k (.int v) = some (mP w (upd s k v)) := by
  unfold pf
  rw [hM.1]
  dsimp only [mobj]
  have hl : k < 15 := by omega
  rw [if_pos ⟨rfl, hl⟩]
  unfold mP mobj
  congr 3
  rcases (show k = 3 ∨ k = 9 ∨ k = 10 ∨ k = 11 ∨ k = 12 ∨ k = 13 ∨ k = 14 by omega) with rfl | rfl | rfl | rfl | rfl | rfl | rfl <;> simp [upd]
theorem MM.rd_ (hM : MM w h s) {a : Nat} (ha : a < 8) {x : Int32} (hx : inb x (mlen a)) : rd w (50 + a) x = some (h a x.toNatClampNeg) := by
  unfold rd; rw [hM.2 a ha]; exact if_pos hx
theorem MM.wr_ (hM : MM w h s) {a : Nat} (ha : a < 8) {x : Int32} (hx : inb x (mlen a)) (v : Int32) : wr w (50 + a) x v = some (mW w a (upd (h a) x.toNatClampNeg v)) := by
  unfold wr; rw [hM.2 a ha]; exact if_pos hx
/-- the places by number -/
theorem MM.rdN (hM : MM w h s) {a i : Nat} (ha : a < 8) (hi : i < mlen a) (hl : mlen a < 1000) {x : Int32} (hx : x = nI i) : rd w (50 + a) x = some (h a i) := by
  subst hx; rw [hM.rd_ ha (inb_nI hi (by omega)), nI_clamp (by omega)]
theorem MM.wrN (hM : MM w h s) {a i : Nat} (ha : a < 8) (hi : i < mlen a) (hl : mlen a < 1000) {x : Int32} (hx : x = nI i) (v : Int32) : wr w (50 + a) x v = some (mW w a (upd (h a) i v)) := by
  subst hx; rw [hM.wr_ ha (inb_nI hi (by omega)), nI_clamp (by omega)]
theorem MM.rd0 (hM : MM w h s) {i : Nat} (hi : i < 87) {x : Int32} (hx : x = nI i) : rd w 50 x = some (h 0 i) := hM.rdN (a := 0) (by omega) hi (by decide) hx
theorem MM.wr0 (hM : MM w h s) {i : Nat} (hi : i < 87) {x : Int32} (hx : x = nI i) (v : Int32) : wr w 50 x v = some (mW w 0 (upd (h 0) i v)) := hM.wrN (a := 0) (by omega) hi (by decide) hx v
end MMS
/-! numbers: a literal is its nI; places in the row -/
theorem n11 {d e : Nat} {x y : Int32} (hx : x = nI d) (hy : y = nI e) : (11 + (6 * x)) + y = nI (11 + 6 * d + e) := by
  subst hx; subst hy
  have e1 : (6 : Int32) * nI d = nI (6 * d) := pk_mul 6 d
  have e2 : (11 : Int32) + nI (6 * d) = nI (11 + 6 * d) := nI_add 11 (6 * d)
  rw [e1, e2, nI_add]
theorem n59 {d e : Nat} {x y : Int32} (hx : x = nI d) (hy : y = nI e) : (59 + (3 * x)) + y = nI (59 + 3 * d + e) := by
  subst hx; subst hy
  have e1 : (3 : Int32) * nI d = nI (3 * d) := pk_mul 3 d
  have e2 : (59 : Int32) + nI (3 * d) = nI (59 + 3 * d) := nI_add 59 (3 * d)
  rw [e1, e2, nI_add]
theorem n5 {d : Nat} {x : Int32} (hx : x = nI d) : 5 + x = nI (5 + d) := by subst hx; exact nI_add 5 d
theorem bz1 : bz 1 = some 1 := by decide
theorem bz0 : bz 0 = some 0 := by decide
/-- yes or no as a number -/
def bI (p : Prop) [Decidable p] : Int32 := if p then 1 else 0
theorem bz_bI (p : Prop) [Decidable p] : bz (bI p) = some (bI p) := by unfold bI; split <;> decide
theorem bI_0 (p : Prop) [Decidable p] : (bI p = 0) = ¬ p := by unfold bI; split <;> simp [*]
section MML
variable {w : A_W} {h : Nat → Nat → Int32} {s : Nat → Int32}
theorem M_in (x a b : Int32) (w : A_W) : F_M_in x a b w = some (bI (a ≤ x ∧ x ≤ b), w) := by
  unfold F_M_in F_M_in_0 F_M_in_14 F_M_in_15 bI
  by_cases h1 : x < a
  · rw [if_pos h1, if_neg (fun z => Int32.not_le.mpr h1 z.1)]; rfl
  · rw [if_neg h1]
    by_cases h2 : b < x
    · rw [if_pos h2, if_neg (fun z => Int32.not_le.mpr h2 z.2)]; rfl
    · rw [if_neg h2, if_pos ⟨Int32.not_lt.mp h1, Int32.not_lt.mp h2⟩]; rfl
def hld (x a b : Int32) : Int32 := if x < a then a else if b < x then b else x
theorem M_held (x a b : Int32) (w : A_W) : F_M_held x a b w = some (hld x a b, w) := by
  unfold F_M_held F_M_held_0 F_M_held_19 hld
  by_cases h1 : x < a
  · rw [if_neg (Int32.not_le.mpr h1), if_pos h1]
  · rw [if_pos (Int32.not_lt.mp h1), if_neg h1]
    by_cases h2 : b < x
    · rw [if_neg (Int32.not_le.mpr h2), if_pos h2]
    · rw [if_pos (Int32.not_lt.mp h2), if_neg h2]
theorem M_isDeposit (hM : MM w h s) (x : Int32) : F_M_isDeposit 49 x w = some (bI (0 ≤ x ∧ x ≤ h 0 3 - 1), w) := by
  unfold F_M_isDeposit F_M_isDeposit_0
  rw [hM.gr0, Option.bind_some, hM.rd0 (i := 3) (x := 3) (by omega) rfl, Option.bind_some, M_in, Option.bind_some, bz_bI]; rfl
theorem M_isGirl (hM : MM w h s) (x : Int32) : F_M_isGirl 49 x w = some (bI (0 ≤ x ∧ x ≤ h 0 4 - 1), w) := by
  unfold F_M_isGirl F_M_isGirl_0
  rw [hM.gr0, Option.bind_some, hM.rd0 (i := 4) (x := 4) (by omega) rfl, Option.bind_some, M_in, Option.bind_some, bz_bI]; rfl
theorem M_isHanger (x : Int32) (w : A_W) : F_M_isHanger x w = some (bI (0 ≤ x ∧ x ≤ 15), w) := by
  unfold F_M_isHanger F_M_isHanger_0; rw [M_in, Option.bind_some, bz_bI]; rfl
theorem M_isPlace (x : Int32) (w : A_W) : F_M_isPlace x w = some (bI (0 ≤ x ∧ x ≤ 5), w) := by
  unfold F_M_isPlace F_M_isPlace_0; rw [M_in, Option.bind_some, bz_bI]; rfl
theorem M_it (hM : MM w h s) {d e : Nat} (hd : d < 8) (he : e < 6) {x y : Int32} (hx : x = nI d) (hy : y = nI e) : F_M_it 49 x y w = some (h 0 (11 + 6 * d + e), w) := by
  unfold F_M_it F_M_it_0
  rw [hM.gr0, Option.bind_some, hM.rd0 (i := 11 + 6 * d + e) (by omega) (n11 hx hy)]; rfl
theorem M_put (hM : MM w h s) {d e : Nat} (hd : d < 8) (he : e < 6) {x y : Int32} (hx : x = nI d) (hy : y = nI e) (v : Int32) : F_M_put 49 x y v w = some (mW w 0 (upd (h 0) (11 + 6 * d + e) v)) := by
  unfold F_M_put F_M_put_0
  rw [hM.gr0, Option.bind_some, hM.wr0 (i := 11 + 6 * d + e) (by omega) (n11 hx hy)]; rfl
theorem M_her (hM : MM w h s) {d e : Nat} (hd : d < 6) (he : e < 3) {x y : Int32} (hx : x = nI d) (hy : y = nI e) : F_M_her 49 x y w = some (h 0 (59 + 3 * d + e), w) := by
  unfold F_M_her F_M_her_0
  rw [hM.gr0, Option.bind_some, hM.rd0 (i := 59 + 3 * d + e) (by omega) (n59 hx hy)]; rfl
theorem M_lets (hM : MM w h s) {d e : Nat} (hd : d < 6) (he : e < 3) {x y : Int32} (hx : x = nI d) (hy : y = nI e) (v : Int32) : F_M_lets 49 x y v w = some (mW w 0 (upd (h 0) (59 + 3 * d + e) v)) := by
  unfold F_M_lets F_M_lets_0
  rw [hM.gr0, Option.bind_some, hM.wr0 (i := 59 + 3 * d + e) (by omega) (n59 hx hy)]; rfl
theorem M_isHere (hM : MM w h s) {d : Nat} (hd : d < 8) {x : Int32} (hx : x = nI d) : F_M_isHere 49 x w = some (bI (h 0 (16 + 6 * d) = 0), w) := by
  unfold F_M_isHere F_M_isHere_0 F_M_isHere_14
  rw [hM.ob_, Option.bind_some, M_it hM hd (e := 5) (y := 5) (by omega) hx rfl, Option.bind_some]
  dsimp only
  rw [show 11 + 6 * d + 5 = 16 + 6 * d by omega]
  unfold bI
  by_cases c : h 0 (16 + 6 * d) = 0
  · rw [if_pos c, if_pos c]; rfl
  · rw [if_neg c, if_neg c]; rfl
end MML
