/-! THE RULES of Sm: small steps that compute (t1, runL), and one rule for each other instruction -/
abbrev Ent : Type := Nat × Instr × Nat × Nat × Value × Nat × Nat × Nat
def vI (v : Value) (x : Int32) : Bool := match v with
  | .int y => decide (x = y)
  | _ => false
def vJ (v : Value) (x : Int64) : Bool := match v with
  | .long y => decide (x = y)
  | _ => false
def exF (own : Nat) (q : Ent) (idx : Nat) : Bool := decide (q.2.2.2.2.2.1 < 5) && (decide (q.2.2.2.2.2.2.1 < Nn q.2.2.2.2.2.1) && decide (lw_tbl[q.2.2.2.2.2.2.2]? = some (.fieldLink (Rn own) idx (Rn q.2.2.2.2.2.1) (Tn q.2.2.2.2.2.1 q.2.2.2.2.2.2.1).2.1 (Tn q.2.2.2.2.2.1 q.2.2.2.2.2.2.1).2.2.1)))
def exC (own : Nat) (q : Ent) (idx : Nat) : Bool := match q.2.2.2.2.1 with
  | .int v => decide (lw_tbl[q.2.2.2.2.2.2.2]? = some (.constant (Rn own) idx v))
  | .ref a => decide (a = sA q.2.2.2.2.2.2.1) && (match strs[q.2.2.2.2.2.2.1]? with
    | some z => decide (z.1 = own) && decide (z.2.1 = idx)
    | none => false)
  | _ => false
def exG (own : Nat) (q : Ent) (idx : Nat) : Bool := match q.2.2.2.2.1 with
  | .ref a => decide (a = aA q.2.2.2.2.2.2.1) && (match sarr[q.2.2.2.2.2.2.1]? with
    | some z => decide (lw_tbl[q.2.2.2.2.2.2.2]? = some (.fieldLink (Rn own) idx z.1 z.2.1 "[I"))
    | none => false)
  | _ => false
def exL (own : Nat) (q : Ent) (idx : Nat) : Bool := match q.2.2.2.2.1 with
  | .long v => decide (lw_tbl[q.2.2.2.2.2.2.2]? = some (.constantLong (Rn own) idx v))
  | _ => false
def ex (own : Nat) (q : Ent) : Bool := match q.2.1 with
  | .iconst n => vI q.2.2.2.2.1 (Int32.ofInt n) && decide (q.2.2.2.1 = q.1 + 1)
  | .bipush n => vI q.2.2.2.2.1 (Int8.ofInt n).toInt32 && decide (q.2.2.2.1 = q.1 + 2)
  | .sipush n => vI q.2.2.2.2.1 (Int16.ofInt n).toInt32 && decide (q.2.2.2.1 = q.1 + 3)
  | .lconst n => vJ q.2.2.2.2.1 (Int64.ofNat n) && decide (q.2.2.2.1 = q.1 + 1)
  | .iinc _ n => vI q.2.2.2.2.1 (Int32.ofInt n) && decide (q.2.2.2.1 = q.1 + 3)
  | .ldc idx => exC own q idx && decide (q.2.2.2.1 = q.1 + 2)
  | .ldc_w idx => exC own q idx && decide (q.2.2.2.1 = q.1 + 3)
  | .ldc2_w idx => exL own q idx && decide (q.2.2.2.1 = q.1 + 3)
  | .getstatic idx => exG own q idx && decide (q.2.2.2.1 = q.1 + 3)
  | .getfield idx => exF own q idx
  | .putfield idx => exF own q idx
  | .goto off => decide ((q.1 : Int) + off = (q.2.2.2.1 : Int))
  | .if_icmp _ off => decide ((q.1 : Int) + off = (q.2.2.2.1 : Int))
  | .ifCond _ off => decide ((q.1 : Int) + off = (q.2.2.2.1 : Int))
  | _ => decide (q.2.2.2.1 = q.1 + q.2.2.1)
def il : Instr → Nat
  | .iload_n _ | .aload_n _ | .lload_n _ | .istore_n _ | .astore_n _ | .lstore_n _ | .iconst _ | .lconst _ => 1
  | .iload _ | .aload _ | .lload _ | .istore _ | .astore _ | .lstore _ | .bipush _ | .ldc _ => 2
  | .iinc .. | .sipush _ | .ldc_w _ | .ldc2_w _ | .getstatic _ | .goto _ | .if_icmp .. | .ifCond .. | .getfield _ | .putfield _ => 3
  | .invokevirtual _ | .invokestatic _ | .invokespecial _ | .new _ | .anewarray _ => 3
  | .newarray _ => 2
  | .iadd | .isub | .imul | .iand | .ior | .ixor | .ishl | .ishr | .iushr | .ladd | .lmul | .ineg | .i2b | .i2s | .i2l => 1
  | .idiv | .irem | .ldiv | .lrem | .lcmp | .dup | .pop | .dup_x1 | .dup2 | .iaload | .iastore | .aaload | .aastore | .arraylength => 1
  | .ireturn | .areturn | .lreturn | .return_ => 1
  | _ => 0
def eok (own : Nat) (cc : ByteArray) (q : Ent) : Bool := decide (decode cc q.1 = .ok (q.2.1, q.2.2.1)) && (decide (il q.2.1 = 0 ∨ q.2.2.1 = il q.2.1) && ex own q)
theorem eok_l {own : Nat} {cc : ByteArray} {q : Ent} (h : eok own cc q = true) : il q.2.1 = 0 ∨ q.2.2.1 = il q.2.1 := by
  unfold eok at h
  exact of_decide_eq_true (Bool.and_eq_true_iff.mp (Bool.and_eq_true_iff.mp h).2).1
theorem eok_d {own : Nat} {cc : ByteArray} {q : Ent} (h : eok own cc q = true) : decode cc q.1 = .ok (q.2.1, q.2.2.1) := by
  unfold eok at h
  exact of_decide_eq_true (Bool.and_eq_true_iff.mp h).1
theorem eok_x {own : Nat} {cc : ByteArray} {q : Ent} (h : eok own cc q = true) : ex own q = true := by
  unfold eok at h
  exact (Bool.and_eq_true_iff.mp (Bool.and_eq_true_iff.mp h).2).2
/-- the decode row of an entry, with the length that its instruction has -/
theorem eok_i {own : Nat} {cc : ByteArray} {pc len nx ci k pl n : Nat} {ins : Instr} {v : Value} (h : eok own cc (pc, ins, len, nx, v, ci, k, pl) = true) (hn : il ins = n + 1) : decode cc pc = .ok (ins, n + 1) := by
  have h1 := eok_d h
  have h2 := eok_l h
  dsimp only at h1 h2
  rcases h2 with h2 | h2
  · rw [hn] at h2; cases h2
  · rw [h1, h2, hn]
theorem eo {own : Nat} {cc : ByteArray} {es : List Ent} (h : es.all (eok own cc) = true) {i : Nat} {q : Ent} (hi : es[i]? = some q) : eok own cc q = true := List.all_eq_true.mp h q (List.mem_of_getElem? hi)
theorem vI_e {v : Value} {x : Int32} (h : vI v x = true) : v = .int x := by
  cases v <;> simp [vI] at h
  rw [h]
theorem vJ_e {v : Value} {x : Int64} (h : vJ v x = true) : v = .long x := by
  cases v <;> simp [vJ] at h
  rw [h]
def okb (r : A_R) : Nat → Bool
  | 0 => true
  | i + 1 => match lk r i with
    | some (.long _) => false
    | some (.double _) => false
    | _ => true
def sto (r : A_R) (i : Nat) (v : Value) : Option A_R := match okb r i && Nat.ble (i + 1) r.length with
  | true => some (sv r i (some v))
  | false => none
def sto2 (r : A_R) (i : Nat) (v : Value) : Option A_R := match okb r i && Nat.ble (i + 2) r.length with
  | true => some (sv (sv r i (some v)) (i + 1) none)
  | false => none
section SMR
variable {G : Gx} {X : Cx} {own nL : Nat} {cc : ByteArray} {rt : Option FieldType} {rm : Room} {w : A_W} {nc ns : Nat} {r : A_R} {st : List Value} {pc : Nat}
theorem s_iload_n (K : Ok G X own cc nL rt rm) {k : Fin 4} {x : Int32} (hd : decode cc pc = .ok (.iload_n k, 1)) (hl : lk r k.val = some (.int x)) (kk : Sm G X w nc ns r (.int x :: st) (pc + 1)) : Sm G X w nc ns r st pc := fun H locs ls hw hS h => lv_iload_n K.1 K.2.1 hd rfl (h.2.2 _ _ hl) (kk H locs ls hw hS h)
theorem s_iload (K : Ok G X own cc nL rt rm) {i : Nat} {x : Int32} (hd : decode cc pc = .ok (.iload i, 2)) (hl : lk r i = some (.int x)) (kk : Sm G X w nc ns r (.int x :: st) (pc + 2)) : Sm G X w nc ns r st pc := fun H locs ls hw hS h => lv_iload K.1 K.2.1 hd (h.2.2 _ _ hl) (kk H locs ls hw hS h)
theorem s_aload_n (K : Ok G X own cc nL rt rm) {k : Fin 4} {x : Nat} (hd : decode cc pc = .ok (.aload_n k, 1)) (hl : lk r k.val = some (.ref x)) (kk : Sm G X w nc ns r (.ref x :: st) (pc + 1)) : Sm G X w nc ns r st pc := fun H locs ls hw hS h => lv_aload_n K.1 K.2.1 hd rfl (h.2.2 _ _ hl) (kk H locs ls hw hS h)
theorem s_aload (K : Ok G X own cc nL rt rm) {i : Nat} {x : Nat} (hd : decode cc pc = .ok (.aload i, 2)) (hl : lk r i = some (.ref x)) (kk : Sm G X w nc ns r (.ref x :: st) (pc + 2)) : Sm G X w nc ns r st pc := fun H locs ls hw hS h => lv_aload K.1 K.2.1 hd (h.2.2 _ _ hl) (kk H locs ls hw hS h)
theorem s_lload_n (K : Ok G X own cc nL rt rm) {k : Fin 4} {x : Int64} (hd : decode cc pc = .ok (.lload_n k, 1)) (hl : lk r k.val = some (.long x)) (kk : Sm G X w nc ns r (.long x :: st) (pc + 1)) : Sm G X w nc ns r st pc := fun H locs ls hw hS h => lv_lload_n K.1 K.2.1 hd rfl (h.2.2 _ _ hl) (kk H locs ls hw hS h)
theorem s_lload (K : Ok G X own cc nL rt rm) {i : Nat} {x : Int64} (hd : decode cc pc = .ok (.lload i, 2)) (hl : lk r i = some (.long x)) (kk : Sm G X w nc ns r (.long x :: st) (pc + 2)) : Sm G X w nc ns r st pc := fun H locs ls hw hS h => lv_lload K.1 K.2.1 hd (h.2.2 _ _ hl) (kk H locs ls hw hS h)
theorem rl_cat (G : Gx) (v : Value) : (rl G v).category = v.category := by cases v <;> rfl
theorem okb_at {r : A_R} {i : Nat} (h : okb r i = true) {j : Nat} {v : Value} (hj : lk r j = some v) (e : j + 1 = i) : ¬ v.category = 2 := by
  subst e
  simp only [okb, hj] at h
  intro hc
  cases v <;> simp [Value.category] at hc h
theorem sto_e {r r' : A_R} {i : Nat} {v : Value} (h : sto r i v = some r') : okb r i = true ∧ i < r.length ∧ r' = sv r i (some v) := by
  unfold sto at h
  cases hb : okb r i && Nat.ble (i + 1) r.length with
  | false => rw [hb] at h; cases h
  | true =>
    rw [hb] at h; cases h
    have := Bool.and_eq_true_iff.mp hb
    exact ⟨this.1, Nat.le_of_ble_eq_true this.2, rfl⟩
theorem sto2_e {r r' : A_R} {i : Nat} {v : Value} (h : sto2 r i v = some r') : okb r i = true ∧ i + 1 < r.length ∧ r' = sv (sv r i (some v)) (i + 1) none := by
  unfold sto2 at h
  cases hb : okb r i && Nat.ble (i + 2) r.length with
  | false => rw [hb] at h; cases h
  | true =>
    rw [hb] at h; cases h
    have := Bool.and_eq_true_iff.mp hb
    exact ⟨this.1, Nat.le_of_ble_eq_true this.2, rfl⟩
theorem sto_LH {r : A_R} {i : Nat} {v : Value} {ls' : Array Slot} (hk : okb r i = true) (hi : i < r.length) (h : lv_has ls' r.length ((i, rl G v) :: (prs G r).filter (fun q => !(q.1 == i) && !(q.1 + 1 == i && q.2.category == 2)))) : LH G ls' (sv r i (some v)) := by
  refine LH.of (by rw [sv_len]; exact h) fun j x hj => ?_
  rw [lk_sv] at hj
  by_cases e : j = i
  · subst e
    rw [if_pos ⟨rfl, hi⟩] at hj
    cases hj
    exact List.mem_cons_self
  · rw [if_neg (fun z => e z.1)] at hj
    refine List.mem_cons_of_mem _ (List.mem_filter.mpr ⟨prs_mem.mpr ⟨x, hj, rfl⟩, ?_⟩)
    by_cases e1 : j + 1 = i
    · have := okb_at hk hj e1
      simp [e, e1, rl_cat, this]
    · simp [e, e1]
theorem sto2_LH {r : A_R} {i : Nat} {v : Value} {ls' : Array Slot} (hk : okb r i = true) (hi : i + 1 < r.length) (h : lv_has ls' r.length ((i, rl G v) :: (prs G r).filter (fun q => !(q.1 == i) && (!(q.1 == i + 1) && !(q.1 + 1 == i && q.2.category == 2))))) : LH G ls' (sv (sv r i (some v)) (i + 1) none) := by
  refine LH.of (by rw [sv_len, sv_len]; exact h) fun j x hj => ?_
  rw [lk_sv, lk_sv, sv_len] at hj
  by_cases e2 : j = i + 1
  · rw [if_pos ⟨e2, hi⟩] at hj; cases hj
  · rw [if_neg (fun z => e2 z.1)] at hj
    by_cases e : j = i
    · subst e
      rw [if_pos ⟨rfl, by omega⟩] at hj
      cases hj
      exact List.mem_cons_self
    · rw [if_neg (fun z => e z.1)] at hj
      refine List.mem_cons_of_mem _ (List.mem_filter.mpr ⟨prs_mem.mpr ⟨x, hj, rfl⟩, ?_⟩)
      by_cases e1 : j + 1 = i
      · have := okb_at hk hj e1
        simp [e, e1, e2, rl_cat, this]
      · simp [e, e1, e2]
theorem s_istore_n (K : Ok G X own cc nL rt rm) {k : Fin 4} {x : Int32} {r1 : A_R} (hd : decode cc pc = .ok (.istore_n k, 1)) (h1 : sto r k.val (.int x) = some r1) (kk : Sm G X w nc ns r1 st (pc + 1)) : Sm G X w nc ns r (.int x :: st) pc := fun H locs ls hw hS h => by
  obtain ⟨hk, hi, rfl⟩ := sto_e h1
  exact lv_istore_n K.1 K.2.1 hd rfl h.has hi rfl (fun ls1 h2 => kk H locs ls1 hw hS (sto_LH (v := .int x) hk hi h2))
theorem s_istore (K : Ok G X own cc nL rt rm) {i : Nat} {x : Int32} {r1 : A_R} (hd : decode cc pc = .ok (.istore i, 2)) (h1 : sto r i (.int x) = some r1) (kk : Sm G X w nc ns r1 st (pc + 2)) : Sm G X w nc ns r (.int x :: st) pc := fun H locs ls hw hS h => by
  obtain ⟨hk, hi, rfl⟩ := sto_e h1
  exact lv_istore K.1 K.2.1 hd h.has hi rfl (fun ls1 h2 => kk H locs ls1 hw hS (sto_LH (v := .int x) hk hi h2))
theorem s_astore_n (K : Ok G X own cc nL rt rm) {k : Fin 4} {x : Nat} {r1 : A_R} (hd : decode cc pc = .ok (.astore_n k, 1)) (h1 : sto r k.val (.ref x) = some r1) (kk : Sm G X w nc ns r1 st (pc + 1)) : Sm G X w nc ns r (.ref x :: st) pc := fun H locs ls hw hS h => by
  obtain ⟨hk, hi, rfl⟩ := sto_e h1
  exact lv_astore_n K.1 K.2.1 hd rfl h.has hi rfl (fun ls1 h2 => kk H locs ls1 hw hS (sto_LH (v := .ref x) hk hi h2))
theorem s_astore (K : Ok G X own cc nL rt rm) {i : Nat} {x : Nat} {r1 : A_R} (hd : decode cc pc = .ok (.astore i, 2)) (h1 : sto r i (.ref x) = some r1) (kk : Sm G X w nc ns r1 st (pc + 2)) : Sm G X w nc ns r (.ref x :: st) pc := fun H locs ls hw hS h => by
  obtain ⟨hk, hi, rfl⟩ := sto_e h1
  exact lv_astore K.1 K.2.1 hd h.has hi rfl (fun ls1 h2 => kk H locs ls1 hw hS (sto_LH (v := .ref x) hk hi h2))
theorem s_lstore_n (K : Ok G X own cc nL rt rm) {k : Fin 4} {x : Int64} {r1 : A_R} (hd : decode cc pc = .ok (.lstore_n k, 1)) (h1 : sto2 r k.val (.long x) = some r1) (kk : Sm G X w nc ns r1 st (pc + 1)) : Sm G X w nc ns r (.long x :: st) pc := fun H locs ls hw hS h => by
  obtain ⟨hk, hi, rfl⟩ := sto2_e h1
  exact lv_lstore_n K.1 K.2.1 hd rfl h.has hi rfl (fun ls1 h2 => kk H locs ls1 hw hS (sto2_LH (v := .long x) hk hi h2))
theorem s_lstore (K : Ok G X own cc nL rt rm) {i : Nat} {x : Int64} {r1 : A_R} (hd : decode cc pc = .ok (.lstore i, 2)) (h1 : sto2 r i (.long x) = some r1) (kk : Sm G X w nc ns r1 st (pc + 2)) : Sm G X w nc ns r (.long x :: st) pc := fun H locs ls hw hS h => by
  obtain ⟨hk, hi, rfl⟩ := sto2_e h1
  exact lv_lstore K.1 K.2.1 hd h.has hi rfl (fun ls1 h2 => kk H locs ls1 hw hS (sto2_LH (v := .long x) hk hi h2))
theorem s_iinc (K : Ok G X own cc nL rt rm) {i : Nat} {n : Int} {x v : Int32} {r1 : A_R} (hd : decode cc pc = .ok (.iinc i n, 3)) (hl : lk r i = some (.int x)) (hv : Int32.ofInt n = v) (h1 : sto r i (.int (x + v)) = some r1) (kk : Sm G X w nc ns r1 st (pc + 3)) : Sm G X w nc ns r st pc := fun H locs ls hw hS h => by
  obtain ⟨hk, hi, rfl⟩ := sto_e h1
  obtain ⟨j, hj⟩ := List.mem_iff_getElem?.mp (prs_mem.mpr ⟨_, hl, rfl⟩ : (i, rl G (.int x)) ∈ prs G r)
  exact lv_iinc K.1 K.2.1 hd h.has (k := j) hj (by rw [hv]) hi rfl (fun ls1 h2 => kk H locs ls1 hw hS (sto_LH (v := .int (x + v)) hk hi h2))
theorem s_iconst (K : Ok G X own cc nL rt rm) {n : Int} {v : Int32} (hd : decode cc pc = .ok (.iconst n, 1)) (hv : Int32.ofInt n = v) (kk : Sm G X w nc ns r (.int v :: st) (pc + 1)) : Sm G X w nc ns r (st) pc := fun H locs ls hw hS h => lv_iconst K.1 K.2.1 hd hv (kk H locs ls hw hS h)
theorem s_bipush (K : Ok G X own cc nL rt rm) {n : Int} {v : Int32} (hd : decode cc pc = .ok (.bipush n, 2)) (hv : (Int8.ofInt n).toInt32 = v) (kk : Sm G X w nc ns r (.int v :: st) (pc + 2)) : Sm G X w nc ns r (st) pc := fun H locs ls hw hS h => lv_bipush K.1 K.2.1 hd hv (kk H locs ls hw hS h)
theorem s_sipush (K : Ok G X own cc nL rt rm) {n : Int} {v : Int32} (hd : decode cc pc = .ok (.sipush n, 3)) (hv : (Int16.ofInt n).toInt32 = v) (kk : Sm G X w nc ns r (.int v :: st) (pc + 3)) : Sm G X w nc ns r (st) pc := fun H locs ls hw hS h => lv_sipush K.1 K.2.1 hd hv (kk H locs ls hw hS h)
theorem s_lconst (K : Ok G X own cc nL rt rm) {n : Fin 2} {v : Int64} (hd : decode cc pc = .ok (.lconst n, 1)) (hv : Int64.ofNat (n : Nat) = v) (kk : Sm G X w nc ns r (.long v :: st) (pc + 1)) : Sm G X w nc ns r (st) pc := fun H locs ls hw hS h => lv_lconst K.1 K.2.1 hd hv (kk H locs ls hw hS h)
theorem s_ineg (K : Ok G X own cc nL rt rm) {x : Int32} (hd : decode cc pc = .ok (.ineg, 1))  (kk : Sm G X w nc ns r (.int (-x) :: st) (pc + 1)) : Sm G X w nc ns r (.int x :: st) pc := fun H locs ls hw hS h => lv_ineg K.1 K.2.1 hd  (kk H locs ls hw hS h)
theorem s_i2b (K : Ok G X own cc nL rt rm) {x : Int32} (hd : decode cc pc = .ok (.i2b, 1))  (kk : Sm G X w nc ns r (.int x.toInt8.toInt32 :: st) (pc + 1)) : Sm G X w nc ns r (.int x :: st) pc := fun H locs ls hw hS h => lv_i2b K.1 K.2.1 hd rfl (kk H locs ls hw hS h)
theorem s_i2s (K : Ok G X own cc nL rt rm) {x : Int32} (hd : decode cc pc = .ok (.i2s, 1))  (kk : Sm G X w nc ns r (.int x.toInt16.toInt32 :: st) (pc + 1)) : Sm G X w nc ns r (.int x :: st) pc := fun H locs ls hw hS h => lv_i2s K.1 K.2.1 hd rfl (kk H locs ls hw hS h)
theorem s_i2l (K : Ok G X own cc nL rt rm) {x : Int32} (hd : decode cc pc = .ok (.i2l, 1))  (kk : Sm G X w nc ns r (.long x.toInt64 :: st) (pc + 1)) : Sm G X w nc ns r (.int x :: st) pc := fun H locs ls hw hS h => lv_i2l K.1 K.2.1 hd rfl (kk H locs ls hw hS h)
theorem s_iushr (K : Ok G X own cc nL rt rm) {x y : Int32} (hd : decode cc pc = .ok (.iushr, 1))  (kk : Sm G X w nc ns r (.int (x.toUInt32 >>> (y.toUInt32 &&& Int32.toUInt32 31)).toInt32 :: st) (pc + 1)) : Sm G X w nc ns r (.int y :: .int x :: st) pc := fun H locs ls hw hS h => lv_iushr K.1 K.2.1 hd rfl (kk H locs ls hw hS h)
theorem s_iadd (K : Ok G X own cc nL rt rm) {x y : Int32} (hd : decode cc pc = .ok (.iadd, 1))  (kk : Sm G X w nc ns r (.int (x + y) :: st) (pc + 1)) : Sm G X w nc ns r (.int y :: .int x :: st) pc := fun H locs ls hw hS h => lv_iadd K.1 K.2.1 hd  (kk H locs ls hw hS h)
theorem s_isub (K : Ok G X own cc nL rt rm) {x y : Int32} (hd : decode cc pc = .ok (.isub, 1))  (kk : Sm G X w nc ns r (.int (x - y) :: st) (pc + 1)) : Sm G X w nc ns r (.int y :: .int x :: st) pc := fun H locs ls hw hS h => lv_isub K.1 K.2.1 hd  (kk H locs ls hw hS h)
theorem s_imul (K : Ok G X own cc nL rt rm) {x y : Int32} (hd : decode cc pc = .ok (.imul, 1))  (kk : Sm G X w nc ns r (.int (x * y) :: st) (pc + 1)) : Sm G X w nc ns r (.int y :: .int x :: st) pc := fun H locs ls hw hS h => lv_imul K.1 K.2.1 hd  (kk H locs ls hw hS h)
theorem s_iand (K : Ok G X own cc nL rt rm) {x y : Int32} (hd : decode cc pc = .ok (.iand, 1))  (kk : Sm G X w nc ns r (.int (x &&& y) :: st) (pc + 1)) : Sm G X w nc ns r (.int y :: .int x :: st) pc := fun H locs ls hw hS h => lv_iand K.1 K.2.1 hd  (kk H locs ls hw hS h)
theorem s_ior (K : Ok G X own cc nL rt rm) {x y : Int32} (hd : decode cc pc = .ok (.ior, 1))  (kk : Sm G X w nc ns r (.int (x ||| y) :: st) (pc + 1)) : Sm G X w nc ns r (.int y :: .int x :: st) pc := fun H locs ls hw hS h => lv_ior K.1 K.2.1 hd  (kk H locs ls hw hS h)
theorem s_ixor (K : Ok G X own cc nL rt rm) {x y : Int32} (hd : decode cc pc = .ok (.ixor, 1))  (kk : Sm G X w nc ns r (.int (x ^^^ y) :: st) (pc + 1)) : Sm G X w nc ns r (.int y :: .int x :: st) pc := fun H locs ls hw hS h => lv_ixor K.1 K.2.1 hd  (kk H locs ls hw hS h)
theorem s_ishl (K : Ok G X own cc nL rt rm) {x y : Int32} (hd : decode cc pc = .ok (.ishl, 1))  (kk : Sm G X w nc ns r (.int (x <<< (y &&& 31)) :: st) (pc + 1)) : Sm G X w nc ns r (.int y :: .int x :: st) pc := fun H locs ls hw hS h => lv_ishl K.1 K.2.1 hd  (kk H locs ls hw hS h)
theorem s_ishr (K : Ok G X own cc nL rt rm) {x y : Int32} (hd : decode cc pc = .ok (.ishr, 1))  (kk : Sm G X w nc ns r (.int (x >>> (y &&& 31)) :: st) (pc + 1)) : Sm G X w nc ns r (.int y :: .int x :: st) pc := fun H locs ls hw hS h => lv_ishr K.1 K.2.1 hd  (kk H locs ls hw hS h)
theorem s_ladd (K : Ok G X own cc nL rt rm) {x y : Int64} (hd : decode cc pc = .ok (.ladd, 1))  (kk : Sm G X w nc ns r (.long (x + y) :: st) (pc + 1)) : Sm G X w nc ns r (.long y :: .long x :: st) pc := fun H locs ls hw hS h => lv_ladd K.1 K.2.1 hd  (kk H locs ls hw hS h)
theorem s_lmul (K : Ok G X own cc nL rt rm) {x y : Int64} (hd : decode cc pc = .ok (.lmul, 1))  (kk : Sm G X w nc ns r (.long (x * y) :: st) (pc + 1)) : Sm G X w nc ns r (.long y :: .long x :: st) pc := fun H locs ls hw hS h => lv_lmul K.1 K.2.1 hd  (kk H locs ls hw hS h)
theorem s_idiv (K : Ok G X own cc nL rt rm) {x y : Int32} (hd : decode cc pc = .ok (.idiv, 1)) (hne : ¬ y = 0) (kk : Sm G X w nc ns r (.int (x / y) :: st) (pc + 1)) : Sm G X w nc ns r (.int y :: .int x :: st) pc := fun H locs ls hw hS h => lv_idiv K.1 K.2.1 hd hne (kk H locs ls hw hS h)
theorem s_irem (K : Ok G X own cc nL rt rm) {x y : Int32} (hd : decode cc pc = .ok (.irem, 1)) (hne : ¬ y = 0) (kk : Sm G X w nc ns r (.int (x - x / y * y) :: st) (pc + 1)) : Sm G X w nc ns r (.int y :: .int x :: st) pc := fun H locs ls hw hS h => lv_irem K.1 K.2.1 hd hne (kk H locs ls hw hS h)
theorem s_ldiv (K : Ok G X own cc nL rt rm) {x y : Int64} (hd : decode cc pc = .ok (.ldiv, 1)) (hne : ¬ y = 0) (kk : Sm G X w nc ns r (.long (x / y) :: st) (pc + 1)) : Sm G X w nc ns r (.long y :: .long x :: st) pc := fun H locs ls hw hS h => lv_ldiv K.1 K.2.1 hd hne (kk H locs ls hw hS h)
theorem s_lrem (K : Ok G X own cc nL rt rm) {x y : Int64} (hd : decode cc pc = .ok (.lrem, 1)) (hne : ¬ y = 0) (kk : Sm G X w nc ns r (.long (x - x / y * y) :: st) (pc + 1)) : Sm G X w nc ns r (.long y :: .long x :: st) pc := fun H locs ls hw hS h => lv_lrem K.1 K.2.1 hd hne (kk H locs ls hw hS h)
theorem s_dup (K : Ok G X own cc nL rt rm) {a : Value} (hd : decode cc pc = .ok (.dup, 1)) (ha : a.category = 1) (kk : Sm G X w nc ns r (a :: a :: st) (pc + 1)) : Sm G X w nc ns r (a :: st) pc := fun H locs ls hw hS h => lv_dup K.1 K.2.1 hd (by rw [rl_cat]; exact ha) (kk H locs ls hw hS h)
theorem s_pop (K : Ok G X own cc nL rt rm) {a : Value} (hd : decode cc pc = .ok (.pop, 1)) (ha : a.category = 1) (kk : Sm G X w nc ns r st (pc + 1)) : Sm G X w nc ns r (a :: st) pc := fun H locs ls hw hS h => lv_pop K.1 K.2.1 hd (by rw [rl_cat]; exact ha) (kk H locs ls hw hS h)
theorem s_dup_x1 (K : Ok G X own cc nL rt rm) {a b : Value} (hd : decode cc pc = .ok (.dup_x1, 1)) (ha : a.category = 1) (hb : b.category = 1) (kk : Sm G X w nc ns r (a :: b :: a :: st) (pc + 1)) : Sm G X w nc ns r (a :: b :: st) pc := fun H locs ls hw hS h => lv_dup_x1 K.1 K.2.1 hd (by rw [rl_cat]; exact ha) (by rw [rl_cat]; exact hb) (kk H locs ls hw hS h)
theorem s_dup2 (K : Ok G X own cc nL rt rm) {a b : Value} (hd : decode cc pc = .ok (.dup2, 1)) (ha : a.category = 1) (hb : b.category = 1) (kk : Sm G X w nc ns r (a :: b :: a :: b :: st) (pc + 1)) : Sm G X w nc ns r (a :: b :: st) pc := fun H locs ls hw hS h => lv_dup2_11 K.1 K.2.1 hd (by rw [rl_cat]; exact ha) (by rw [rl_cat]; exact hb) (kk H locs ls hw hS h)
theorem s_goto (K : Ok G X own cc nL rt rm) {off : Int} {tgt : Nat} (hd : decode cc pc = .ok (.goto off, 3)) (ht : (pc : Int) + off = (tgt : Int)) (kk : Sm G X w nc ns r st tgt) : Sm G X w nc ns r st pc := fun H locs ls hw hS h => lv_goto K.1 K.2.1 hd ht (kk H locs ls hw hS h)
theorem s_ldc (K : Ok G X own cc nL rt rm) {idx : Nat} {v : Int32} (hd : decode cc pc = .ok (.ldc idx, 2)) (hm : Cond.constant (Rn own) idx v ∈ lg) (kk : Sm G X w nc ns r (.int v :: st) (pc + 2)) : Sm G X w nc ns r st pc := fun H locs ls hw hS h => lv_ldc K.1 K.2.1 K.2.2.2.2.1 (K.2.2.2.2.2.1 _ hm) hd (kk H locs ls hw hS h)
theorem s_ldcw (K : Ok G X own cc nL rt rm) {idx : Nat} {v : Int32} (hd : decode cc pc = .ok (.ldc_w idx, 3)) (hm : Cond.constant (Rn own) idx v ∈ lg) (kk : Sm G X w nc ns r (.int v :: st) (pc + 3)) : Sm G X w nc ns r st pc := fun H locs ls hw hS h => lv_ldcw K.1 K.2.1 K.2.2.2.2.1 (K.2.2.2.2.2.1 _ hm) hd (kk H locs ls hw hS h)
theorem s_ldc2 (K : Ok G X own cc nL rt rm) {idx : Nat} {v : Int64} (hd : decode cc pc = .ok (.ldc2_w idx, 3)) (hm : Cond.constantLong (Rn own) idx v ∈ lg) (kk : Sm G X w nc ns r (.long v :: st) (pc + 3)) : Sm G X w nc ns r st pc := fun H locs ls hw hS h => lv_ldc2 K.1 K.2.1 K.2.2.2.2.1 (K.2.2.2.2.2.1 _ hm) hd (kk H locs ls hw hS h)
theorem s_ldcS (K : Ok G X own cc nL rt rm) {idx j : Nat} {z : Nat × Nat × String} (hd : decode cc pc = .ok (.ldc idx, 2)) (hz : strs[j]? = some z) (h1 : z.1 = own) (h2 : z.2.1 = idx) (kk : Sm G X w nc ns r (.ref (sA j) :: st) (pc + 2)) : Sm G X w nc ns r st pc := fun H locs ls hw hS h => by
  subst h1; subst h2
  exact va_ldcS K.1 K.2.1 K.2.2.2.2.1 (K.2.2.2.2.2.2.1.2.2.2.1 j z hz) hd (kk H locs ls hw hS h)
theorem s_gets (K : Ok G X own cc nL rt rm) {idx j : Nat} {z : String × String × List Int32} (hd : decode cc pc = .ok (.getstatic idx, 3)) (hz : sarr[j]? = some z) (hm : Cond.fieldLink (Rn own) idx z.1 z.2.1 "[I" ∈ lg) (kk : Sm G X w nc ns r (.ref (aA j) :: st) (pc + 3)) : Sm G X w nc ns r st pc := fun H locs ls hw hS h =>
  va_gets K.1 K.2.1 (K.2.2.2.2.2.2.1.2.2.1 j z hz).1 hS K.2.2.2.2.1 (K.2.2.2.2.2.1 _ hm) (fun _ h9 => h9) hd (kk H locs ls hw hS h)
end SMR
def t1 (q : Ent) (r : A_R) (st : List Value) : Option (A_R × List Value) := match q.2.1 with
  | .iload_n k => (match lk r k.val with
    | some (.int x) => some (r, .int x :: st)
    | _ => none)
  | .iload k => (match lk r k with
    | some (.int x) => some (r, .int x :: st)
    | _ => none)
  | .aload_n k => (match lk r k.val with
    | some (.ref x) => some (r, .ref x :: st)
    | _ => none)
  | .aload k => (match lk r k with
    | some (.ref x) => some (r, .ref x :: st)
    | _ => none)
  | .lload_n k => (match lk r k.val with
    | some (.long x) => some (r, .long x :: st)
    | _ => none)
  | .lload k => (match lk r k with
    | some (.long x) => some (r, .long x :: st)
    | _ => none)
  | .istore_n k => (match st with
    | .int x :: st => (match sto r k.val (.int x) with
      | some r1 => some (r1, st)
      | none => none)
    | _ => none)
  | .istore k => (match st with
    | .int x :: st => (match sto r k (.int x) with
      | some r1 => some (r1, st)
      | none => none)
    | _ => none)
  | .astore_n k => (match st with
    | .ref x :: st => (match sto r k.val (.ref x) with
      | some r1 => some (r1, st)
      | none => none)
    | _ => none)
  | .astore k => (match st with
    | .ref x :: st => (match sto r k (.ref x) with
      | some r1 => some (r1, st)
      | none => none)
    | _ => none)
  | .lstore_n k => (match st with
    | .long x :: st => (match sto2 r k.val (.long x) with
      | some r1 => some (r1, st)
      | none => none)
    | _ => none)
  | .lstore k => (match st with
    | .long x :: st => (match sto2 r k (.long x) with
      | some r1 => some (r1, st)
      | none => none)
    | _ => none)
  | .iinc k _ => (match lk r k with
    | some (.int x) => (match q.2.2.2.2.1 with
      | .int v => (match sto r k (.int (x + v)) with
        | some r1 => some (r1, st)
        | none => none)
      | _ => none)
    | _ => none)
  | .iconst _ => some (r, q.2.2.2.2.1 :: st)
  | .bipush _ => some (r, q.2.2.2.2.1 :: st)
  | .sipush _ => some (r, q.2.2.2.2.1 :: st)
  | .lconst _ => some (r, q.2.2.2.2.1 :: st)
  | .ldc _ => some (r, q.2.2.2.2.1 :: st)
  | .ldc_w _ => (match q.2.2.2.2.1 with
    | .int v => some (r, .int v :: st)
    | _ => none)
  | .ldc2_w _ => some (r, q.2.2.2.2.1 :: st)
  | .getstatic _ => some (r, q.2.2.2.2.1 :: st)
  | .goto _ => some (r, st)
  | .iadd => (match st with
    | .int y :: .int x :: st => some (r, .int (x + y) :: st)
    | _ => none)
  | .isub => (match st with
    | .int y :: .int x :: st => some (r, .int (x - y) :: st)
    | _ => none)
  | .imul => (match st with
    | .int y :: .int x :: st => some (r, .int (x * y) :: st)
    | _ => none)
  | .iand => (match st with
    | .int y :: .int x :: st => some (r, .int (x &&& y) :: st)
    | _ => none)
  | .ior => (match st with
    | .int y :: .int x :: st => some (r, .int (x ||| y) :: st)
    | _ => none)
  | .ixor => (match st with
    | .int y :: .int x :: st => some (r, .int (x ^^^ y) :: st)
    | _ => none)
  | .ishl => (match st with
    | .int y :: .int x :: st => some (r, .int (x <<< (y &&& 31)) :: st)
    | _ => none)
  | .ishr => (match st with
    | .int y :: .int x :: st => some (r, .int (x >>> (y &&& 31)) :: st)
    | _ => none)
  | .iushr => (match st with
    | .int y :: .int x :: st => some (r, .int (x.toUInt32 >>> (y.toUInt32 &&& Int32.toUInt32 31)).toInt32 :: st)
    | _ => none)
  | .ladd => (match st with
    | .long y :: .long x :: st => some (r, .long (x + y) :: st)
    | _ => none)
  | .lmul => (match st with
    | .long y :: .long x :: st => some (r, .long (x * y) :: st)
    | _ => none)
  | .ineg => (match st with
    | .int x :: st => some (r, .int (-x) :: st)
    | _ => none)
  | .i2b => (match st with
    | .int x :: st => some (r, .int x.toInt8.toInt32 :: st)
    | _ => none)
  | .i2s => (match st with
    | .int x :: st => some (r, .int x.toInt16.toInt32 :: st)
    | _ => none)
  | .i2l => (match st with
    | .int x :: st => some (r, .long x.toInt64 :: st)
    | _ => none)
  | .dup => (match st with
    | .int a :: st => some (r, .int a :: .int a :: st)
    | .ref a :: st => some (r, .ref a :: .ref a :: st)
    | _ => none)
  | .pop => (match st with
    | .int _ :: st => some (r, st)
    | .ref _ :: st => some (r, st)
    | _ => none)
  | .dup_x1 => (match st with
    | .int a :: .ref b :: st => some (r, .int a :: .ref b :: .int a :: st)
    | .int a :: .int b :: st => some (r, .int a :: .int b :: .int a :: st)
    | _ => none)
  | .dup2 => (match st with
    | .int a :: .ref b :: st => some (r, .int a :: .ref b :: .int a :: .ref b :: st)
    | _ => none)
  | _ => none
section SMT
variable {G : Gx} {X : Cx} {own nL : Nat} {cc : ByteArray} {rt : Option FieldType} {rm : Room} {w : A_W} {nc ns : Nat} {r : A_R} {st : List Value} {pc : Nat}
theorem t1_ok (K : Ok G X own cc nL rt rm) {q : Ent} (hq : eok own cc q = true) {r1 : A_R} {st1 : List Value} (h : t1 q r st = some (r1, st1)) (kk : Sm G X w nc ns r1 st1 q.2.2.2.1) : Sm G X w nc ns r st q.1 := by
  have hx := eok_x hq
  obtain ⟨pc, ins, len, nx, v, ci, k, pl⟩ := q
  dsimp only at kk ⊢
  have fin : ∀ {n : Nat}, nx = pc + n → Sm G X w nc ns r1 st1 nx → Sm G X w nc ns r1 st1 (pc + n) := fun e z => e ▸ z
  have dl : ∀ {n : Nat}, il ins = n + 1 → decide (nx = pc + len) = true → nx = pc + (n + 1) := by
    intro n hn e
    have h1 := of_decide_eq_true e
    rcases eok_l hq with h2 | h2
    · dsimp only at h2; rw [hn] at h2; cases h2
    · dsimp only at h2; rw [h1, h2, hn]
  cases ins
  case iload_n k0 =>
    have hd := eok_i hq rfl
    simp only [t1] at h
    split at h
    · rename_i x hl
      cases h
      exact s_iload_n K hd hl (fin (dl rfl hx) kk)
    · cases h
  case iload k0 =>
    have hd := eok_i hq rfl
    simp only [t1] at h
    split at h
    · rename_i x hl
      cases h
      exact s_iload K hd hl (fin (dl rfl hx) kk)
    · cases h
  case aload_n k0 =>
    have hd := eok_i hq rfl
    simp only [t1] at h
    split at h
    · rename_i x hl
      cases h
      exact s_aload_n K hd hl (fin (dl rfl hx) kk)
    · cases h
  case aload k0 =>
    have hd := eok_i hq rfl
    simp only [t1] at h
    split at h
    · rename_i x hl
      cases h
      exact s_aload K hd hl (fin (dl rfl hx) kk)
    · cases h
  case lload_n k0 =>
    have hd := eok_i hq rfl
    simp only [t1] at h
    split at h
    · rename_i x hl
      cases h
      exact s_lload_n K hd hl (fin (dl rfl hx) kk)
    · cases h
  case lload k0 =>
    have hd := eok_i hq rfl
    simp only [t1] at h
    split at h
    · rename_i x hl
      cases h
      exact s_lload K hd hl (fin (dl rfl hx) kk)
    · cases h
  case istore_n k0 =>
    have hd := eok_i hq rfl
    simp only [t1] at h
    split at h
    · split at h
      · rename_i r2 hl
        cases h
        exact s_istore_n K hd hl (fin (dl rfl hx) kk)
      · cases h
    · cases h
  case istore k0 =>
    have hd := eok_i hq rfl
    simp only [t1] at h
    split at h
    · split at h
      · rename_i r2 hl
        cases h
        exact s_istore K hd hl (fin (dl rfl hx) kk)
      · cases h
    · cases h
  case astore_n k0 =>
    have hd := eok_i hq rfl
    simp only [t1] at h
    split at h
    · split at h
      · rename_i r2 hl
        cases h
        exact s_astore_n K hd hl (fin (dl rfl hx) kk)
      · cases h
    · cases h
  case astore k0 =>
    have hd := eok_i hq rfl
    simp only [t1] at h
    split at h
    · split at h
      · rename_i r2 hl
        cases h
        exact s_astore K hd hl (fin (dl rfl hx) kk)
      · cases h
    · cases h
  case lstore_n k0 =>
    have hd := eok_i hq rfl
    simp only [t1] at h
    split at h
    · split at h
      · rename_i r2 hl
        cases h
        exact s_lstore_n K hd hl (fin (dl rfl hx) kk)
      · cases h
    · cases h
  case lstore k0 =>
    have hd := eok_i hq rfl
    simp only [t1] at h
    split at h
    · split at h
      · rename_i r2 hl
        cases h
        exact s_lstore K hd hl (fin (dl rfl hx) kk)
      · cases h
    · cases h
  case iinc k0 n0 =>
    have hd := eok_i hq rfl
    simp only [t1] at h
    have hx := Bool.and_eq_true_iff.mp hx
    split at h
    · rename_i x hl
      split at h
      · split at h
        · rename_i r2 hs
          cases h
          have hv2 := vI_e hx.1
          dsimp only at hv2
          cases hv2
          exact s_iinc K hd hl rfl hs (fin (of_decide_eq_true hx.2) kk)
        · cases h
      · cases h
    · cases h
  case iconst n0 =>
    have hd := eok_i hq rfl
    have hx := Bool.and_eq_true_iff.mp hx
    simp only [t1] at h
    have hv2 := vI_e hx.1
    dsimp only at hv2
    subst hv2
    cases h
    exact s_iconst K hd rfl (fin (of_decide_eq_true hx.2) kk)
  case bipush n0 =>
    have hd := eok_i hq rfl
    have hx := Bool.and_eq_true_iff.mp hx
    simp only [t1] at h
    have hv2 := vI_e hx.1
    dsimp only at hv2
    subst hv2
    cases h
    exact s_bipush K hd rfl (fin (of_decide_eq_true hx.2) kk)
  case sipush n0 =>
    have hd := eok_i hq rfl
    have hx := Bool.and_eq_true_iff.mp hx
    simp only [t1] at h
    have hv2 := vI_e hx.1
    dsimp only at hv2
    subst hv2
    cases h
    exact s_sipush K hd rfl (fin (of_decide_eq_true hx.2) kk)
  case lconst n0 =>
    have hd := eok_i hq rfl
    have hx := Bool.and_eq_true_iff.mp hx
    simp only [t1] at h
    have hv2 := vJ_e hx.1
    dsimp only at hv2
    subst hv2
    cases h
    exact s_lconst K hd rfl (fin (of_decide_eq_true hx.2) kk)
  case ldc n0 =>
    have hd := eok_i hq rfl
    have hx := Bool.and_eq_true_iff.mp hx
    simp only [t1] at h
    have hc := hx.1
    unfold exC at hc
    dsimp only at hc
    split at hc
    · cases h
      exact s_ldc K hd (lgm _ (of_decide_eq_true hc) rfl) (fin (of_decide_eq_true hx.2) kk)
    · have hc := Bool.and_eq_true_iff.mp hc
      have ha := of_decide_eq_true hc.1
      have hc := hc.2
      split at hc
      · rename_i z hz
        have hc3 := Bool.and_eq_true_iff.mp hc
        subst ha
        cases h
        exact s_ldcS K hd hz (of_decide_eq_true hc3.1) (of_decide_eq_true hc3.2) (fin (of_decide_eq_true hx.2) kk)
      · cases hc
    · cases hc
  case ldc_w n0 =>
    have hd := eok_i hq rfl
    have hx := Bool.and_eq_true_iff.mp hx
    simp only [t1] at h
    have hc := hx.1
    unfold exC at hc
    dsimp only at hc
    split at h
    · cases h
      exact s_ldcw K hd (lgm _ (of_decide_eq_true hc) rfl) (fin (of_decide_eq_true hx.2) kk)
    · cases h
  case ldc2_w n0 =>
    have hd := eok_i hq rfl
    have hx := Bool.and_eq_true_iff.mp hx
    simp only [t1] at h
    have hc := hx.1
    unfold exL at hc
    dsimp only at hc
    split at hc
    · cases h
      exact s_ldc2 K hd (lgm _ (of_decide_eq_true hc) rfl) (fin (of_decide_eq_true hx.2) kk)
    · cases hc
  case getstatic n0 =>
    have hd := eok_i hq rfl
    have hx := Bool.and_eq_true_iff.mp hx
    simp only [t1] at h
    have hc := hx.1
    unfold exG at hc
    dsimp only at hc
    split at hc
    · have hc := Bool.and_eq_true_iff.mp hc
      have ha := of_decide_eq_true hc.1
      have hc := hc.2
      split at hc
      · rename_i z hz
        subst ha
        cases h
        exact s_gets K hd hz (lgm _ (of_decide_eq_true hc) rfl) (fin (of_decide_eq_true hx.2) kk)
      · cases hc
    · cases hc
  case goto off =>
    have hd := eok_i hq rfl
    simp only [t1] at h
    cases h
    exact s_goto K hd (of_decide_eq_true hx) kk
  case iadd =>
    have hd := eok_i hq rfl
    simp only [t1] at h
    split at h
    · cases h
      exact s_iadd K hd (fin (dl rfl hx) kk)
    · cases h
  case isub =>
    have hd := eok_i hq rfl
    simp only [t1] at h
    split at h
    · cases h
      exact s_isub K hd (fin (dl rfl hx) kk)
    · cases h
  case imul =>
    have hd := eok_i hq rfl
    simp only [t1] at h
    split at h
    · cases h
      exact s_imul K hd (fin (dl rfl hx) kk)
    · cases h
  case iand =>
    have hd := eok_i hq rfl
    simp only [t1] at h
    split at h
    · cases h
      exact s_iand K hd (fin (dl rfl hx) kk)
    · cases h
  case ior =>
    have hd := eok_i hq rfl
    simp only [t1] at h
    split at h
    · cases h
      exact s_ior K hd (fin (dl rfl hx) kk)
    · cases h
  case ixor =>
    have hd := eok_i hq rfl
    simp only [t1] at h
    split at h
    · cases h
      exact s_ixor K hd (fin (dl rfl hx) kk)
    · cases h
  case ishl =>
    have hd := eok_i hq rfl
    simp only [t1] at h
    split at h
    · cases h
      exact s_ishl K hd (fin (dl rfl hx) kk)
    · cases h
  case ishr =>
    have hd := eok_i hq rfl
    simp only [t1] at h
    split at h
    · cases h
      exact s_ishr K hd (fin (dl rfl hx) kk)
    · cases h
  case iushr =>
    have hd := eok_i hq rfl
    simp only [t1] at h
    split at h
    · cases h
      exact s_iushr K hd (fin (dl rfl hx) kk)
    · cases h
  case ladd =>
    have hd := eok_i hq rfl
    simp only [t1] at h
    split at h
    · cases h
      exact s_ladd K hd (fin (dl rfl hx) kk)
    · cases h
  case lmul =>
    have hd := eok_i hq rfl
    simp only [t1] at h
    split at h
    · cases h
      exact s_lmul K hd (fin (dl rfl hx) kk)
    · cases h
  case ineg =>
    have hd := eok_i hq rfl
    simp only [t1] at h
    split at h
    · cases h
      exact s_ineg K hd (fin (dl rfl hx) kk)
    · cases h
  case i2b =>
    have hd := eok_i hq rfl
    simp only [t1] at h
    split at h
    · cases h
      exact s_i2b K hd (fin (dl rfl hx) kk)
    · cases h
  case i2s =>
    have hd := eok_i hq rfl
    simp only [t1] at h
    split at h
    · cases h
      exact s_i2s K hd (fin (dl rfl hx) kk)
    · cases h
  case i2l =>
    have hd := eok_i hq rfl
    simp only [t1] at h
    split at h
    · cases h
      exact s_i2l K hd (fin (dl rfl hx) kk)
    · cases h
  case dup =>
    have hd := eok_i hq rfl
    simp only [t1] at h
    split at h
    · cases h
      exact s_dup K hd rfl (fin (dl rfl hx) kk)
    · cases h
      exact s_dup K hd rfl (fin (dl rfl hx) kk)
    · cases h
  case pop =>
    have hd := eok_i hq rfl
    simp only [t1] at h
    split at h
    · cases h
      exact s_pop K hd rfl (fin (dl rfl hx) kk)
    · cases h
      exact s_pop K hd rfl (fin (dl rfl hx) kk)
    · cases h
  case dup_x1 =>
    have hd := eok_i hq rfl
    simp only [t1] at h
    split at h
    · cases h
      exact s_dup_x1 K hd rfl rfl (fin (dl rfl hx) kk)
    · cases h
      exact s_dup_x1 K hd rfl rfl (fin (dl rfl hx) kk)
    · cases h
  case dup2 =>
    have hd := eok_i hq rfl
    simp only [t1] at h
    split at h
    · cases h
      exact s_dup2 K hd rfl rfl (fin (dl rfl hx) kk)
    · cases h
  all_goals (simp only [t1] at h; cases h)
def runL : List Ent → Nat → A_R → List Value → Option (Nat × A_R × List Value)
  | [], pc, r, st => some (pc, r, st)
  | q :: qs, pc, r, st => match Nat.beq q.1 pc with
    | true => (match t1 q r st with
      | some (r1, st1) => runL qs q.2.2.2.1 r1 st1
      | none => none)
    | false => none
theorem runL_ok (K : Ok G X own cc nL rt rm) (es : List Ent) : ∀ (_ : ∀ q ∈ es, eok own cc q = true) (pc : Nat) (r : A_R) (st : List Value) (pc1 : Nat) (r1 : A_R) (st1 : List Value), runL es pc r st = some (pc1, r1, st1) → Sm G X w nc ns r1 st1 pc1 → Sm G X w nc ns r st pc := by
  induction es with
  | nil => intro _ pc r st pc1 r1 st1 h kk; cases h; exact kk
  | cons q qs ih =>
    intro hE pc r st pc1 r1 st1 h kk
    simp only [runL] at h
    split at h
    · rename_i hb
      split at h
      · rename_i r2 st2 ht
        have hpc := Nat.eq_of_beq_eq_true hb
        subst hpc
        exact t1_ok K (hE q List.mem_cons_self) ht (ih (fun z hz => hE z (List.mem_cons_of_mem _ hz)) _ _ _ _ _ _ h kk)
      · cases h
    · cases h
/-- n small steps from the i-th entry of a method on -/
theorem Sm_run (K : Ok G X own cc nL rt rm) {es : List Ent} (hE : es.all (eok own cc) = true) (i n : Nat) {pc1 : Nat} {r1 : A_R} {st1 : List Value} (h : runL ((es.drop i).take n) pc r st = some (pc1, r1, st1)) (kk : Sm G X w nc ns r1 st1 pc1) : Sm G X w nc ns r st pc :=
  runL_ok K _ (fun q hq => List.all_eq_true.mp hE q (List.mem_of_mem_drop (List.mem_of_mem_take hq))) _ _ _ _ _ _ h kk
end SMT
