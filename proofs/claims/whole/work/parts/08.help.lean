/-! SMALL HELP for the walks that wip/whole/gen/gen.py prints -/
def FU : Nat := 100000
def jrem (x y : Int32) : Int32 := x - x / y * y
def jreml (x y : Int64) : Int64 := x - x / y * y
def ob (w : A_W) (a ci : Nat) : Option (List Value) := match w[a]? with
  | some (.inr (.inr (c, fs))) => if c = ci then some fs else none
  | _ => none
theorem ob_e {w : A_W} {a ci : Nat} {fs : List Value} (h : ob w a ci = some fs) : w[a]? = some (.inr (.inr (ci, fs))) := by
  unfold ob at h
  split at h
  · rename_i c f hw
    split at h
    · rename_i e; subst e; cases h; exact hw
    · cases h
  · cases h
theorem leR_nil : leR [] [] := trivial
theorem leR_s {a : Option Value} {t u : A_R} (h : leR t u) : leR (a :: t) (a :: u) := ⟨Or.inr rfl, h⟩
theorem leR_n {b : Option Value} {t u : A_R} (h : leR t u) : leR (none :: t) (b :: u) := ⟨Or.inl rfl, h⟩
theorem Sm_eq {G : Gx} {X : Cx} {w : A_W} {nc ns nc1 ns1 : Nat} {r : A_R} {st st1 : List Value} {pc : Nat} (h : st = st1) (h1 : nc = nc1) (h2 : ns = ns1) (kk : Sm G X w nc1 ns1 r st1 pc) : Sm G X w nc ns r st pc := by
  subst h; subst h1; subst h2; exact kk
theorem Sm_pc {G : Gx} {X : Cx} {w : A_W} {nc ns : Nat} {r : A_R} {st : List Value} {pc pc1 : Nat} (h : pc = pc1) (kk : Sm G X w nc ns r st pc1) : Sm G X w nc ns r st pc := by
  subst h; exact kk
theorem Sm_idiv {G : Gx} {X : Cx} {own nL : Nat} {cc : ByteArray} {rt : Option FieldType} {rm : Room} {w : A_W} {nc ns : Nat} {r : A_R} {st : List Value} {pc : Nat} (K : Ok G X own cc nL rt rm) {x y : Int32} (hd : decode cc pc = .ok (.idiv, 1)) (hne : ¬ y = 0) (kk : Sm G X w nc ns r (.int (x / y) :: st) (pc + 1)) : Sm G X w nc ns r (.int y :: .int x :: st) pc := s_idiv K hd hne kk
theorem Sm_irem {G : Gx} {X : Cx} {own nL : Nat} {cc : ByteArray} {rt : Option FieldType} {rm : Room} {w : A_W} {nc ns : Nat} {r : A_R} {st : List Value} {pc : Nat} (K : Ok G X own cc nL rt rm) {x y : Int32} (hd : decode cc pc = .ok (.irem, 1)) (hne : ¬ y = 0) (kk : Sm G X w nc ns r (.int (jrem x y) :: st) (pc + 1)) : Sm G X w nc ns r (.int y :: .int x :: st) pc := s_irem K hd hne kk
theorem Sm_ldiv {G : Gx} {X : Cx} {own nL : Nat} {cc : ByteArray} {rt : Option FieldType} {rm : Room} {w : A_W} {nc ns : Nat} {r : A_R} {st : List Value} {pc : Nat} (K : Ok G X own cc nL rt rm) {x y : Int64} (hd : decode cc pc = .ok (.ldiv, 1)) (hne : ¬ y = 0) (kk : Sm G X w nc ns r (.long (x / y) :: st) (pc + 1)) : Sm G X w nc ns r (.long y :: .long x :: st) pc := s_ldiv K hd hne kk
theorem Sm_lrem {G : Gx} {X : Cx} {own nL : Nat} {cc : ByteArray} {rt : Option FieldType} {rm : Room} {w : A_W} {nc ns : Nat} {r : A_R} {st : List Value} {pc : Nat} (K : Ok G X own cc nL rt rm) {x y : Int64} (hd : decode cc pc = .ok (.lrem, 1)) (hne : ¬ y = 0) (kk : Sm G X w nc ns r (.long (jreml x y) :: st) (pc + 1)) : Sm G X w nc ns r (.long y :: .long x :: st) pc := s_lrem K hd hne kk
theorem ac_nat : Cond.native arraycopyName ∈ lg := lgm 423 (by decide +kernel) rfl
theorem ac_st : Cond.static arraycopyName ∈ lg := lgm 422 (by decide +kernel) rfl
theorem ac_in : Cond.initialized "java/lang/System" ∈ lg := lgm 75 (by decide +kernel) rfl
theorem lsw_off : ∀ (ps : List (Int × Int)) (d k : Int), (∀ q ∈ ps, ¬ k = q.1) → Op.lookupswitch.offset ps d k = d := by
  intro ps
  induction ps with
  | nil => intro d k _; rfl
  | cons q t ih =>
    intro d k h
    obtain ⟨a, b⟩ := q
    have h1 : ¬ k = a := h (a, b) List.mem_cons_self
    have h2 := ih d k (fun z hz => h z (List.mem_cons_of_mem _ hz))
    simp only [Op.lookupswitch.offset]
    split
    · rename_i e; exfalso; first | exact h1 e | exact h1 e.symm | (simp at e; omega)
    · exact h2
theorem lsw_out {ps : Array (Int × Int)} {ps2 : List (Int × Int)} {d k : Int} {pc dt : Nat} (hp : ps.toList = ps2) (hd : (pc : Int) + d = (dt : Int)) (h : ∀ q ∈ ps2, ¬ k = q.1) : (pc : Int) + Op.lookupswitch.offset ps.toList d k = (dt : Int) := by
  rw [hp, lsw_off ps2 d k h]; exact hd
def jmin (x y : Int32) : Int32 := if y < x then y else x
def jmax (x y : Int32) : Int32 := if x < y then y else x
def jabs (x : Int32) : Int32 := if 0 ≤ x then x else 0 - x
theorem ma_in : Cond.initialized "java/lang/Math" ∈ lg := lgm 74 (by decide +kernel) rfl
theorem ma_st_min : Cond.static Lib.Math.min.name ∈ lg := lgm 298 (by decide +kernel) rfl
theorem ma_co_min : Cond.code Lib.Math.min.name Lib.Math.min.code 2 (some .int) ∈ lg := lgm 299 (by decide +kernel) rfl
theorem Sm_min {G : Gx} {X : Cx} {own nL : Nat} {cc : ByteArray} {rt : Option FieldType} {R : Room} {w : A_W} {nc ns : Nat} {r : A_R} {st : List Value} {pc idx : Nat} (K : Ok G X own cc nL rt R) {x y : Int32} (hd : decode cc pc = .ok (.invokestatic idx, 3)) (hl : Cond.methodLink (Rn own) idx Lib.Math.min.name ∈ lg) (hlen : r.length = nL) (hf : 1 ≤ R.frames) (hlo : ((st.map (rl G)).map fun v => v.category).sum + 13 ≤ R.locals) (hc : nc ≤ R.cells) (hs : ns ≤ R.slots) (kk : Sm G X w nc ns r (.int (jmin x y) :: st) (pc + 3)) : Sm G X w nc ns r (.int y :: .int x :: st) pc := fun H locs ls hw hS h => by
  have ht := K.2.2.2.2.2.1
  have hR := K.2.2.2.2.2.2.2.2.1
  exact va_mmin K.1 K.2.1 (by rw [K.2.2.2.1]; exact (h.1.trans hlen).symm) K.2.2.2.2.1 (ht _ hl) (ht _ ma_st_min) (ht _ ma_in) (ht _ ma_co_min) (by rw [hR]; exact hf) (by rw [hR]; exact hlo) (by rw [hR]; exact hc) (by rw [hR]; exact hs) hd (kk H locs ls hw hS h)
theorem ma_st_max : Cond.static Lib.Math.max.name ∈ lg := lgm 316 (by decide +kernel) rfl
theorem ma_co_max : Cond.code Lib.Math.max.name Lib.Math.max.code 2 (some .int) ∈ lg := lgm 317 (by decide +kernel) rfl
theorem Sm_max {G : Gx} {X : Cx} {own nL : Nat} {cc : ByteArray} {rt : Option FieldType} {R : Room} {w : A_W} {nc ns : Nat} {r : A_R} {st : List Value} {pc idx : Nat} (K : Ok G X own cc nL rt R) {x y : Int32} (hd : decode cc pc = .ok (.invokestatic idx, 3)) (hl : Cond.methodLink (Rn own) idx Lib.Math.max.name ∈ lg) (hlen : r.length = nL) (hf : 1 ≤ R.frames) (hlo : ((st.map (rl G)).map fun v => v.category).sum + 13 ≤ R.locals) (hc : nc ≤ R.cells) (hs : ns ≤ R.slots) (kk : Sm G X w nc ns r (.int (jmax x y) :: st) (pc + 3)) : Sm G X w nc ns r (.int y :: .int x :: st) pc := fun H locs ls hw hS h => by
  have ht := K.2.2.2.2.2.1
  have hR := K.2.2.2.2.2.2.2.2.1
  exact va_mmax K.1 K.2.1 (by rw [K.2.2.2.1]; exact (h.1.trans hlen).symm) K.2.2.2.2.1 (ht _ hl) (ht _ ma_st_max) (ht _ ma_in) (ht _ ma_co_max) (by rw [hR]; exact hf) (by rw [hR]; exact hlo) (by rw [hR]; exact hc) (by rw [hR]; exact hs) hd (kk H locs ls hw hS h)
theorem ma_st_abs : Cond.static Lib.Math.abs.name ∈ lg := lgm 313 (by decide +kernel) rfl
theorem ma_co_abs : Cond.code Lib.Math.abs.name Lib.Math.abs.code 1 (some .int) ∈ lg := lgm 314 (by decide +kernel) rfl
theorem Sm_abs {G : Gx} {X : Cx} {own nL : Nat} {cc : ByteArray} {rt : Option FieldType} {R : Room} {w : A_W} {nc ns : Nat} {r : A_R} {st : List Value} {pc idx : Nat} (K : Ok G X own cc nL rt R) {x : Int32} (hd : decode cc pc = .ok (.invokestatic idx, 3)) (hl : Cond.methodLink (Rn own) idx Lib.Math.abs.name ∈ lg) (hlen : r.length = nL) (hf : 1 ≤ R.frames) (hlo : ((st.map (rl G)).map fun v => v.category).sum + 13 ≤ R.locals) (hc : nc ≤ R.cells) (hs : ns ≤ R.slots) (kk : Sm G X w nc ns r (.int (jabs x) :: st) (pc + 3)) : Sm G X w nc ns r (.int x :: st) pc := fun H locs ls hw hS h => by
  have ht := K.2.2.2.2.2.1
  have hR := K.2.2.2.2.2.2.2.2.1
  exact va_mabs K.1 K.2.1 (by rw [K.2.2.2.1]; exact (h.1.trans hlen).symm) K.2.2.2.2.1 (ht _ hl) (ht _ ma_st_abs) (ht _ ma_in) (ht _ ma_co_abs) (by rw [hR]; exact hf) (by rw [hR]; exact hlo) (by rw [hR]; exact hc) (by rw [hR]; exact hs) hd (kk H locs ls hw hS h)
