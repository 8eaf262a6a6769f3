/-! A ROOM'S CELLS: its object at t, its rows at t + 1 .. t + 11, all out of one row g of numbers (the model's way of laying them) -/
def rlen (k : Nat) : Nat := ([0, 6, 8, 8, 8, 8, 8, 8, 6, 6, 6, 10] : List Nat).getD k 0
def rix (k i : Nat) : Nat := if k = 1 then 5 + i else if k ≤ 7 then (9 + k) + 6 * i else if k ≤ 10 then (51 + k) + 3 * i else 77 + i
def cf (k : Nat) (g : Nat → Int32) : Nat → Int32 := fun i => if i < rlen k then g (rix k i) else 0
def rfs (t : Nat) (g : Nat → Int32) : List Value := [.int (g 0), .int (g 1), .int (g 2), .int (g 3), .int (g 4), .ref (t + 1), .ref (t + 2), .ref (t + 3), .ref (t + 4), .ref (t + 5), .ref (t + 6), .ref (t + 7), .ref (t + 8), .ref (t + 9), .ref (t + 10), .ref (t + 11)]
def robj (t : Nat) (g : Nat → Int32) : A_E := .inr (.inr (2, rfs t g))
def RC (w : A_W) (t : Nat) (g : Nat → Int32) : Prop := w[t]? = some (robj t g) ∧ ∀ k, 1 ≤ k → k ≤ 11 → w[t + k]? = some (.inl (rlen k, cf k g))
def rcell (t : Nat) (g : Nat → Int32) (a : Nat) (c : A_E) : A_E := if a = t then robj t g else if t < a ∧ a ≤ t + 11 then .inl (rlen (a - t), cf (a - t) g) else c
def rW (w : A_W) (t : Nat) (g : Nat → Int32) : A_W := w.mapIdx (rcell t g)
def kOf (n : Nat) : Nat := if n < 11 then 1 else if n < 59 then 2 + (n - 11) % 6 else if n < 77 then 8 + (n - 59) % 3 else 11
def iOf (n : Nat) : Nat := if n < 11 then n - 5 else if n < 59 then (n - 11) / 6 else if n < 77 then (n - 59) / 3 else n - 77
theorem rix_inv : ∀ k, k < 12 → ∀ i, i < rlen k → kOf (rix k i) = k ∧ iOf (rix k i) = i := by decide +kernel
theorem rix_inj (k : Nat) (hk : k < 12) (k1 : Nat) (hk1 : k1 < 12) (_ : 1 ≤ k) (_ : 1 ≤ k1) (i : Nat) (hi : i < rlen k) (j : Nat) (hj : j < rlen k1) (e : rix k i = rix k1 j) : k = k1 ∧ i = j := by
  obtain ⟨a1, a2⟩ := rix_inv k hk i hi
  obtain ⟨b1, b2⟩ := rix_inv k1 hk1 j hj
  rw [e] at a1 a2
  exact ⟨a1.symm.trans b1, a2.symm.trans b2⟩
theorem rix_bd : ∀ k, k < 12 → 1 ≤ k → ∀ i, i < rlen k → 5 ≤ rix k i ∧ rix k i < 87 := by decide +kernel
theorem rlen_bd : ∀ k, k < 12 → rlen k ≤ 10 := by decide +kernel
theorem rW_g (w : A_W) (t : Nat) (g : Nat → Int32) (a : Nat) : (rW w t g)[a]? = (w[a]?).map (rcell t g a) := by unfold rW; rw [List.getElem?_mapIdx]
theorem rcell_out {t : Nat} {g : Nat → Int32} {a : Nat} {c : A_E} (h : a < t ∨ t + 11 < a) : rcell t g a c = c := by unfold rcell; rw [if_neg (by omega), if_neg (by omega)]
theorem rW_at {w : A_W} {t : Nat} {g : Nat → Int32} {a : Nat} (h : a < t ∨ t + 11 < a) : (rW w t g)[a]? = w[a]? := by
  rw [rW_g]
  cases w[a]? with
  | none => rfl
  | some c => exact congrArg some (rcell_out h)
theorem rW_rW (w : A_W) (t : Nat) (f g : Nat → Int32) : rW (rW w t f) t g = rW w t g := by
  refine List.ext_getElem? fun a => ?_
  rw [rW_g, rW_g, rW_g]
  cases w[a]? with
  | none => rfl
  | some c =>
    show some (rcell t g a (rcell t f a c)) = some (rcell t g a c)
    congr 1
    unfold rcell
    split
    · rfl
    · split <;> rfl
section RCS
variable {w : A_W} {t : Nat} {g : Nat → Int32}
theorem RC.cell (hR : RC w t g) {a : Nat} (h1 : t ≤ a) (h2 : a ≤ t + 11) : ∃ c, w[a]? = some c ∧ ∀ f, rcell t f a c = if a = t then robj t f else .inl (rlen (a - t), cf (a - t) f) := by
  by_cases e : a = t
  · subst e; exact ⟨_, hR.1, fun f => by unfold rcell; rw [if_pos rfl, if_pos rfl]⟩
  · obtain ⟨k, rfl⟩ : ∃ k, a = t + k := ⟨a - t, by omega⟩
    exact ⟨_, hR.2 k (by omega) (by omega), fun f => by unfold rcell; rw [if_neg e, if_pos (by omega), if_neg e]⟩
theorem RC.set (hR : RC w t g) (f : Nat → Int32) : RC (rW w t f) t f := by
  refine ⟨?_, fun k h1 h2 => ?_⟩
  · rw [rW_g, hR.1]; show some (rcell t f t _) = _; unfold rcell; rw [if_pos rfl]
  · rw [rW_g, hR.2 k h1 h2]; show some (rcell t f (t + k) _) = _; unfold rcell; rw [if_neg (by omega), if_pos (by omega), Nat.add_sub_cancel_left]
theorem RC.at {a : Nat} (hR : RC w t g) (h1 : t ≤ a) (h2 : a ≤ t + 11) : w[a]? = some (if a = t then robj t g else .inl (rlen (a - t), cf (a - t) g)) := by
  by_cases e : a = t
  · subst e; rw [if_pos rfl]; exact hR.1
  · rw [if_neg e]
    obtain ⟨k, rfl⟩ : ∃ k, a = t + k := ⟨a - t, by omega⟩
    rw [Nat.add_sub_cancel_left]; exact hR.2 k (by omega) (by omega)
/-- a world that shows the row f in the room, and is otherwise as w -/
theorem RC.eqW {w1 : A_W} {f : Nat → Int32} (hR : RC w t g) (h1 : RC w1 t f) (hl : ∀ a, (a < t ∨ t + 11 < a) → w1[a]? = w[a]?) : w1 = rW w t f := by
  refine List.ext_getElem? fun a => ?_
  by_cases e : a < t ∨ t + 11 < a
  · rw [rW_at e, hl a e]
  · rw [h1.at (by omega) (by omega), (hR.set f).at (by omega) (by omega)]
theorem RC.rW_id (hR : RC w t g) : rW w t g = w := (hR.eqW hR (fun _ _ => rfl)).symm
theorem RC.fr {w1 : A_W} (hR : RC w t g) (hf : ∀ a, t ≤ a → a ≤ t + 11 → w1[a]? = w[a]?) : RC w1 t g := ⟨by rw [hf t (by omega) (by omega)]; exact hR.1, fun k h1 h2 => by rw [hf _ (by omega) (by omega)]; exact hR.2 k h1 h2⟩
/-- the row matters in its places alone -/
theorem RC.row {f : Nat → Int32} (hR : RC w t g) (hf : ∀ i, i < 87 → f i = g i) : RC w t f := by
  have e1 : robj t f = robj t g := by unfold robj rfs; rw [hf 0 (by omega), hf 1 (by omega), hf 2 (by omega), hf 3 (by omega), hf 4 (by omega)]
  refine ⟨by rw [e1]; exact hR.1, fun k h1 h2 => ?_⟩
  rw [hR.2 k h1 h2]
  congr 3
  funext i
  unfold cf
  split
  · rename_i hi; exact (hf _ (rix_bd k (by omega) h1 i hi).2).symm
  · rfl
theorem RC.ob_ (hR : RC w t g) : ob w t 2 = some (rfs t g) := by unfold ob; rw [hR.1]; rfl
theorem RC.gf_ (hR : RC w t g) (k : Nat) : gf w t 2 k = (rfs t g)[k]? := by unfold gf; rw [hR.1]; rfl
theorem RC.gi0 (hR : RC w t g) : gi w t 2 0 = some (g 0) := by unfold gi; rw [hR.gf_]; rfl
theorem RC.gi1 (hR : RC w t g) : gi w t 2 1 = some (g 1) := by unfold gi; rw [hR.gf_]; rfl
theorem RC.gi2 (hR : RC w t g) : gi w t 2 2 = some (g 2) := by unfold gi; rw [hR.gf_]; rfl
theorem RC.gi3 (hR : RC w t g) : gi w t 2 3 = some (g 3) := by unfold gi; rw [hR.gf_]; rfl
theorem RC.gi4 (hR : RC w t g) : gi w t 2 4 = some (g 4) := by unfold gi; rw [hR.gf_]; rfl
theorem RC.gr5 (hR : RC w t g) : gr w t 2 5 = some (t + 1) := by unfold gr; rw [hR.gf_]; rfl
theorem RC.gr6 (hR : RC w t g) : gr w t 2 6 = some (t + 2) := by unfold gr; rw [hR.gf_]; rfl
theorem RC.gr7 (hR : RC w t g) : gr w t 2 7 = some (t + 3) := by unfold gr; rw [hR.gf_]; rfl
theorem RC.gr8 (hR : RC w t g) : gr w t 2 8 = some (t + 4) := by unfold gr; rw [hR.gf_]; rfl
theorem RC.gr9 (hR : RC w t g) : gr w t 2 9 = some (t + 5) := by unfold gr; rw [hR.gf_]; rfl
theorem RC.gr10 (hR : RC w t g) : gr w t 2 10 = some (t + 6) := by unfold gr; rw [hR.gf_]; rfl
theorem RC.gr11 (hR : RC w t g) : gr w t 2 11 = some (t + 7) := by unfold gr; rw [hR.gf_]; rfl
theorem RC.gr12 (hR : RC w t g) : gr w t 2 12 = some (t + 8) := by unfold gr; rw [hR.gf_]; rfl
theorem RC.gr13 (hR : RC w t g) : gr w t 2 13 = some (t + 9) := by unfold gr; rw [hR.gf_]; rfl
theorem RC.gr14 (hR : RC w t g) : gr w t 2 14 = some (t + 10) := by unfold gr; rw [hR.gf_]; rfl
theorem RC.gr15 (hR : RC w t g) : gr w t 2 15 = some (t + 11) := by unfold gr; rw [hR.gf_]; rfl
theorem RC.rdk (hR : RC w t g) {k i : Nat} (h1 : 1 ≤ k) (h2 : k ≤ 11) (hi : i < rlen k) {x : Int32} (hx : x = nI i) : rd w (t + k) x = some (g (rix k i)) := by
  have hl := rlen_bd k (by omega)
  subst hx
  unfold rd
  rw [hR.2 k h1 h2]
  show (if inb (nI i) (rlen k) then some (cf k g (nI i).toNatClampNeg) else none) = _
  rw [if_pos (inb_nI hi (by omega)), nI_clamp (by omega)]
  unfold cf
  rw [if_pos hi]
theorem RC.wrk (hR : RC w t g) {k i : Nat} (h1 : 1 ≤ k) (h2 : k ≤ 11) (hi : i < rlen k) {x : Int32} (hx : x = nI i) (v : Int32) : wr w (t + k) x v = some (rW w t (upd g (rix k i) v)) := by
  have hl := rlen_bd k (by omega)
  have hb := rix_bd k (by omega) h1 i hi
  subst hx
  unfold wr
  rw [hR.2 k h1 h2]
  show (if inb (nI i) (rlen k) then some (w.set (t + k) (.inl (rlen k, upd (cf k g) (nI i).toNatClampNeg v))) else none) = _
  rw [if_pos (inb_nI hi (by omega)), nI_clamp (by omega)]
  congr 1
  have hlen := (List.getElem?_eq_some_iff.mp (hR.2 k h1 h2)).1
  refine hR.eqW ⟨?_, fun k1 h3 h4 => ?_⟩ (fun a ha => List.getElem?_set_ne (by omega))
  · rw [List.getElem?_set_ne (by omega), hR.1]
    unfold robj rfs
    rw [upd_n (by omega), upd_n (by omega), upd_n (by omega), upd_n (by omega), upd_n (by omega)]
  · by_cases e : k1 = k
    · subst e
      rw [List.getElem?_set_self hlen]
      congr 3
      funext j
      unfold cf
      by_cases hj : j < rlen k1
      · rw [if_pos hj]
        by_cases e2 : j = i
        · subst e2; rw [upd_s, upd_s]
        · rw [upd_n e2, if_pos hj, upd_n (fun z => e2 (rix_inj k1 (by omega) k1 (by omega) h3 h3 j hj i hi z).2)]
      · rw [if_neg hj, upd_n (by omega), if_neg hj]
    · rw [List.getElem?_set_ne (by omega), hR.2 k1 h3 h4]
      congr 3
      funext j
      unfold cf
      by_cases hj : j < rlen k1
      · rw [if_pos hj, if_pos hj, upd_n (fun z => e (rix_inj k1 (by omega) k (by omega) h3 h1 j hj i hi z).1)]
      · rw [if_neg hj, if_neg hj]
theorem RC.pf_ (hR : RC w t g) {j : Nat} (hj : j < 5) (v : Int32) : pf w t 2 j (.int v) = some (rW w t (upd g j v)) := by
  unfold pf
  rw [hR.1]
  have hlen := (List.getElem?_eq_some_iff.mp hR.1).1
  show (if 2 = 2 ∧ j < (rfs t g).length then some (w.set t (.inr (.inr (2, (rfs t g).set j (.int v))))) else none) = _
  rw [if_pos ⟨rfl, by show j < 16; omega⟩]
  congr 1
  refine hR.eqW ⟨?_, fun k1 h3 h4 => ?_⟩ (fun a ha => List.getElem?_set_ne (by omega))
  · rw [List.getElem?_set_self hlen]
    unfold robj
    congr 4
    rcases (show j = 0 ∨ j = 1 ∨ j = 2 ∨ j = 3 ∨ j = 4 by omega) with rfl | rfl | rfl | rfl | rfl <;> simp [rfs, upd]
  · rw [List.getElem?_set_ne (by omega), hR.2 k1 h3 h4]
    congr 3
    funext i
    unfold cf
    by_cases hi : i < rlen k1
    · rw [if_pos hi, if_pos hi, upd_n (by have := rix_bd k1 (by omega) h3 i hi; omega)]
    · rw [if_neg hi, if_neg hi]
theorem RC.rd_list (hR : RC w t g) {i : Nat} (hi : i < 6) {x : Int32} (hx : x = nI i) : rd w (t + 1) x = some (g (5 + i)) := hR.rdk (k := 1) (by omega) (by omega) hi hx
theorem RC.wr_list (hR : RC w t g) {i : Nat} (hi : i < 6) {x : Int32} (hx : x = nI i) (v : Int32) : wr w (t + 1) x v = some (rW w t (upd g (5 + i) v)) := hR.wrk (k := 1) (by omega) (by omega) hi hx v
theorem RC.rd_kind (hR : RC w t g) {i : Nat} (hi : i < 8) {x : Int32} (hx : x = nI i) : rd w (t + 2) x = some (g (11 + 6 * i)) := hR.rdk (k := 2) (by omega) (by omega) hi hx
theorem RC.wr_kind (hR : RC w t g) {i : Nat} (hi : i < 8) {x : Int32} (hx : x = nI i) (v : Int32) : wr w (t + 2) x v = some (rW w t (upd g (11 + 6 * i) v)) := hR.wrk (k := 2) (by omega) (by omega) hi hx v
theorem RC.rd_hanger (hR : RC w t g) {i : Nat} (hi : i < 8) {x : Int32} (hx : x = nI i) : rd w (t + 3) x = some (g (12 + 6 * i)) := hR.rdk (k := 3) (by omega) (by omega) hi hx
theorem RC.wr_hanger (hR : RC w t g) {i : Nat} (hi : i < 8) {x : Int32} (hx : x = nI i) (v : Int32) : wr w (t + 3) x v = some (rW w t (upd g (12 + 6 * i) v)) := hR.wrk (k := 3) (by omega) (by omega) hi hx v
theorem RC.rd_stub (hR : RC w t g) {i : Nat} (hi : i < 8) {x : Int32} (hx : x = nI i) : rd w (t + 4) x = some (g (13 + 6 * i)) := hR.rdk (k := 4) (by omega) (by omega) hi hx
theorem RC.wr_stub (hR : RC w t g) {i : Nat} (hi : i < 8) {x : Int32} (hx : x = nI i) (v : Int32) : wr w (t + 4) x v = some (rW w t (upd g (13 + 6 * i) v)) := hR.wrk (k := 4) (by omega) (by omega) hi hx v
theorem RC.rd_kept (hR : RC w t g) {i : Nat} (hi : i < 8) {x : Int32} (hx : x = nI i) : rd w (t + 5) x = some (g (14 + 6 * i)) := hR.rdk (k := 5) (by omega) (by omega) hi hx
theorem RC.wr_kept (hR : RC w t g) {i : Nat} (hi : i < 8) {x : Int32} (hx : x = nI i) (v : Int32) : wr w (t + 5) x v = some (rW w t (upd g (14 + 6 * i) v)) := hR.wrk (k := 5) (by omega) (by omega) hi hx v
theorem RC.rd_worn (hR : RC w t g) {i : Nat} (hi : i < 8) {x : Int32} (hx : x = nI i) : rd w (t + 6) x = some (g (15 + 6 * i)) := hR.rdk (k := 6) (by omega) (by omega) hi hx
theorem RC.wr_worn (hR : RC w t g) {i : Nat} (hi : i < 8) {x : Int32} (hx : x = nI i) (v : Int32) : wr w (t + 6) x v = some (rW w t (upd g (15 + 6 * i) v)) := hR.wrk (k := 6) (by omega) (by omega) hi hx v
theorem RC.rd_out (hR : RC w t g) {i : Nat} (hi : i < 8) {x : Int32} (hx : x = nI i) : rd w (t + 7) x = some (g (16 + 6 * i)) := hR.rdk (k := 7) (by omega) (by omega) hi hx
theorem RC.wr_out (hR : RC w t g) {i : Nat} (hi : i < 8) {x : Int32} (hx : x = nI i) (v : Int32) : wr w (t + 7) x v = some (rW w t (upd g (16 + 6 * i) v)) := hR.wrk (k := 7) (by omega) (by omega) hi hx v
theorem RC.rd_dream (hR : RC w t g) {i : Nat} (hi : i < 6) {x : Int32} (hx : x = nI i) : rd w (t + 8) x = some (g (59 + 3 * i)) := hR.rdk (k := 8) (by omega) (by omega) hi hx
theorem RC.wr_dream (hR : RC w t g) {i : Nat} (hi : i < 6) {x : Int32} (hx : x = nI i) (v : Int32) : wr w (t + 8) x v = some (rW w t (upd g (59 + 3 * i) v)) := hR.wrk (k := 8) (by omega) (by omega) hi hx v
theorem RC.rd_hope (hR : RC w t g) {i : Nat} (hi : i < 6) {x : Int32} (hx : x = nI i) : rd w (t + 9) x = some (g (60 + 3 * i)) := hR.rdk (k := 9) (by omega) (by omega) hi hx
theorem RC.wr_hope (hR : RC w t g) {i : Nat} (hi : i < 6) {x : Int32} (hx : x = nI i) (v : Int32) : wr w (t + 9) x v = some (rW w t (upd g (60 + 3 * i) v)) := hR.wrk (k := 9) (by omega) (by omega) hi hx v
theorem RC.rd_met (hR : RC w t g) {i : Nat} (hi : i < 6) {x : Int32} (hx : x = nI i) : rd w (t + 10) x = some (g (61 + 3 * i)) := hR.rdk (k := 10) (by omega) (by omega) hi hx
theorem RC.wr_met (hR : RC w t g) {i : Nat} (hi : i < 6) {x : Int32} (hx : x = nI i) (v : Int32) : wr w (t + 10) x v = some (rW w t (upd g (61 + 3 * i) v)) := hR.wrk (k := 10) (by omega) (by omega) hi hx v
theorem RC.rd_spots (hR : RC w t g) {i : Nat} (hi : i < 10) {x : Int32} (hx : x = nI i) : rd w (t + 11) x = some (g (77 + i)) := hR.rdk (k := 11) (by omega) (by omega) hi hx
theorem RC.wr_spots (hR : RC w t g) {i : Nat} (hi : i < 10) {x : Int32} (hx : x = nI i) (v : Int32) : wr w (t + 11) x v = some (rW w t (upd g (77 + i) v)) := hR.wrk (k := 11) (by omega) (by omega) hi hx v
end RCS
