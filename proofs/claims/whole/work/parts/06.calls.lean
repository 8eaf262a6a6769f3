/-! BRANCHES, SWITCHES, CALLS, RETURNS -/
section SMB
variable {G : Gx} {X : Cx} {own nL : Nat} {cc : ByteArray} {rt : Option FieldType} {rm : Room} {w w1 : A_W} {nc ns : Nat} {r : A_R} {st : List Value} {pc : Nat} {len nx ci k pl idx : Nat} {v0 v : Value}
theorem Sm_ic_eq (K : Ok G X own cc nL rt rm) {off : Int} (hq : eok own cc (pc, .if_icmp .eq off, len, nx, v0, ci, k, pl) = true) {x y : Int32} (kt : x = y → Sm G X w nc ns r st nx) (kf : ¬ x = y → Sm G X w nc ns r st (pc + 3)) : Sm G X w nc ns r (.int y :: .int x :: st) pc := fun H locs ls hw hS hl => lv_icmp_eq K.1 K.2.1 (eok_i hq rfl) (of_decide_eq_true (eok_x hq)) (fun z => kt z H locs ls hw hS hl) (fun z => kf z H locs ls hw hS hl)
theorem Sm_ic_ne (K : Ok G X own cc nL rt rm) {off : Int} (hq : eok own cc (pc, .if_icmp .ne off, len, nx, v0, ci, k, pl) = true) {x y : Int32} (kt : ¬ x = y → Sm G X w nc ns r st nx) (kf : x = y → Sm G X w nc ns r st (pc + 3)) : Sm G X w nc ns r (.int y :: .int x :: st) pc := fun H locs ls hw hS hl => lv_icmp_ne K.1 K.2.1 (eok_i hq rfl) (of_decide_eq_true (eok_x hq)) (fun z => kt z H locs ls hw hS hl) (fun z => kf z H locs ls hw hS hl)
theorem Sm_ic_lt (K : Ok G X own cc nL rt rm) {off : Int} (hq : eok own cc (pc, .if_icmp .lt off, len, nx, v0, ci, k, pl) = true) {x y : Int32} (kt : x < y → Sm G X w nc ns r st nx) (kf : ¬ x < y → Sm G X w nc ns r st (pc + 3)) : Sm G X w nc ns r (.int y :: .int x :: st) pc := fun H locs ls hw hS hl => lv_icmp_lt K.1 K.2.1 (eok_i hq rfl) (of_decide_eq_true (eok_x hq)) (fun z => kt z H locs ls hw hS hl) (fun z => kf z H locs ls hw hS hl)
theorem Sm_ic_ge (K : Ok G X own cc nL rt rm) {off : Int} (hq : eok own cc (pc, .if_icmp .ge off, len, nx, v0, ci, k, pl) = true) {x y : Int32} (kt : y ≤ x → Sm G X w nc ns r st nx) (kf : ¬ y ≤ x → Sm G X w nc ns r st (pc + 3)) : Sm G X w nc ns r (.int y :: .int x :: st) pc := fun H locs ls hw hS hl => lv_icmp_ge K.1 K.2.1 (eok_i hq rfl) (of_decide_eq_true (eok_x hq)) (fun z => kt z H locs ls hw hS hl) (fun z => kf z H locs ls hw hS hl)
theorem Sm_ic_gt (K : Ok G X own cc nL rt rm) {off : Int} (hq : eok own cc (pc, .if_icmp .gt off, len, nx, v0, ci, k, pl) = true) {x y : Int32} (kt : y < x → Sm G X w nc ns r st nx) (kf : ¬ y < x → Sm G X w nc ns r st (pc + 3)) : Sm G X w nc ns r (.int y :: .int x :: st) pc := fun H locs ls hw hS hl => lv_icmp_gt K.1 K.2.1 (eok_i hq rfl) (of_decide_eq_true (eok_x hq)) (fun z => kt z H locs ls hw hS hl) (fun z => kf z H locs ls hw hS hl)
theorem Sm_ic_le (K : Ok G X own cc nL rt rm) {off : Int} (hq : eok own cc (pc, .if_icmp .le off, len, nx, v0, ci, k, pl) = true) {x y : Int32} (kt : x ≤ y → Sm G X w nc ns r st nx) (kf : ¬ x ≤ y → Sm G X w nc ns r st (pc + 3)) : Sm G X w nc ns r (.int y :: .int x :: st) pc := fun H locs ls hw hS hl => lv_icmp_le K.1 K.2.1 (eok_i hq rfl) (of_decide_eq_true (eok_x hq)) (fun z => kt z H locs ls hw hS hl) (fun z => kf z H locs ls hw hS hl)
theorem Sm_if_eq (K : Ok G X own cc nL rt rm) {off : Int} (hq : eok own cc (pc, .ifCond .eq off, len, nx, v0, ci, k, pl) = true) {x : Int32} (kt : x = 0 → Sm G X w nc ns r st nx) (kf : ¬ x = 0 → Sm G X w nc ns r st (pc + 3)) : Sm G X w nc ns r (.int x :: st) pc := fun H locs ls hw hS hl => lv_if_eq K.1 K.2.1 (eok_i hq rfl) (of_decide_eq_true (eok_x hq)) (fun z => kt z H locs ls hw hS hl) (fun z => kf z H locs ls hw hS hl)
theorem Sm_if_ne (K : Ok G X own cc nL rt rm) {off : Int} (hq : eok own cc (pc, .ifCond .ne off, len, nx, v0, ci, k, pl) = true) {x : Int32} (kt : ¬ x = 0 → Sm G X w nc ns r st nx) (kf : x = 0 → Sm G X w nc ns r st (pc + 3)) : Sm G X w nc ns r (.int x :: st) pc := fun H locs ls hw hS hl => lv_if_ne K.1 K.2.1 (eok_i hq rfl) (of_decide_eq_true (eok_x hq)) (fun z => kt z H locs ls hw hS hl) (fun z => kf z H locs ls hw hS hl)
theorem Sm_if_lt (K : Ok G X own cc nL rt rm) {off : Int} (hq : eok own cc (pc, .ifCond .lt off, len, nx, v0, ci, k, pl) = true) {x : Int32} (kt : x < 0 → Sm G X w nc ns r st nx) (kf : ¬ x < 0 → Sm G X w nc ns r st (pc + 3)) : Sm G X w nc ns r (.int x :: st) pc := fun H locs ls hw hS hl => lv_if_lt K.1 K.2.1 (eok_i hq rfl) (of_decide_eq_true (eok_x hq)) (fun z => kt z H locs ls hw hS hl) (fun z => kf z H locs ls hw hS hl)
theorem Sm_if_ge (K : Ok G X own cc nL rt rm) {off : Int} (hq : eok own cc (pc, .ifCond .ge off, len, nx, v0, ci, k, pl) = true) {x : Int32} (kt : 0 ≤ x → Sm G X w nc ns r st nx) (kf : ¬ 0 ≤ x → Sm G X w nc ns r st (pc + 3)) : Sm G X w nc ns r (.int x :: st) pc := fun H locs ls hw hS hl => lv_if_ge K.1 K.2.1 (eok_i hq rfl) (of_decide_eq_true (eok_x hq)) (fun z => kt z H locs ls hw hS hl) (fun z => kf z H locs ls hw hS hl)
theorem Sm_if_gt (K : Ok G X own cc nL rt rm) {off : Int} (hq : eok own cc (pc, .ifCond .gt off, len, nx, v0, ci, k, pl) = true) {x : Int32} (kt : 0 < x → Sm G X w nc ns r st nx) (kf : ¬ 0 < x → Sm G X w nc ns r st (pc + 3)) : Sm G X w nc ns r (.int x :: st) pc := fun H locs ls hw hS hl => lv_if_gt K.1 K.2.1 (eok_i hq rfl) (of_decide_eq_true (eok_x hq)) (fun z => kt z H locs ls hw hS hl) (fun z => kf z H locs ls hw hS hl)
theorem Sm_if_le (K : Ok G X own cc nL rt rm) {off : Int} (hq : eok own cc (pc, .ifCond .le off, len, nx, v0, ci, k, pl) = true) {x : Int32} (kt : x ≤ 0 → Sm G X w nc ns r st nx) (kf : ¬ x ≤ 0 → Sm G X w nc ns r st (pc + 3)) : Sm G X w nc ns r (.int x :: st) pc := fun H locs ls hw hS hl => lv_if_le K.1 K.2.1 (eok_i hq rfl) (of_decide_eq_true (eok_x hq)) (fun z => kt z H locs ls hw hS hl) (fun z => kf z H locs ls hw hS hl)
theorem Sm_tsw (K : Ok G X own cc nL rt rm) {dflt lo hi : Int} {offs : Array Int} (hd : decode cc pc = .ok (.tableswitch dflt lo hi offs, len)) (tg : List Nat) (dt : Nat) (hhi : hi = lo + tg.length - 1) (hdt : (pc : Int) + dflt = (dt : Int)) (ho : ∀ j : Nat, j < tg.length → offs[j]? = some (((tg.getD j 0 : Nat) : Int) - (pc : Int))) {x : Int32} (k1 : ∀ j : Nat, j < tg.length → x.toInt = lo + j → Sm G X w nc ns r st (tg.getD j 0)) (k2 : (∀ j : Nat, j < tg.length → ¬ x.toInt = lo + j) → Sm G X w nc ns r st dt) : Sm G X w nc ns r (.int x :: st) pc := by
  intro H locs ls hw hS hl
  by_cases h : x.toInt < lo ∨ hi < x.toInt
  · exact lv_tableOut K.1 K.2.1 hd h hdt (k2 (fun j hj e => by omega) H locs ls hw hS hl)
  · have hj : (x.toInt - lo).toNat < tg.length := by omega
    exact lv_tableIn K.1 K.2.1 hd (by omega) (by omega) (ho _ hj) (by omega) (k1 _ hj (by omega) H locs ls hw hS hl)
theorem Sm_lsw (K : Ok G X own cc nL rt rm) {dflt : Int} {ps : Array (Int × Int)} (hd : decode cc pc = .ok (.lookupswitch dflt ps, len)) (hp : (ps.toList.zip (ps.toList.drop 1)).all (fun (a, next) => a.1 < next.1) = true) {x : Int32} (tgt : Nat) (ht : (pc : Int) + Op.lookupswitch.offset ps.toList dflt x.toInt = (tgt : Int)) (kk : Sm G X w nc ns r st tgt) : Sm G X w nc ns r (.int x :: st) pc := fun H locs ls hw hS hl => lv_lookup K.1 K.2.1 hd hp rfl ht (kk H locs ls hw hS hl)
/-- fewer locals are known: a stronger statement -/
def leR : A_R → A_R → Prop
  | [], [] => True
  | a :: t, b :: u => (a = none ∨ a = b) ∧ leR t u
  | _, _ => False
theorem leR_lk {a b : A_R} (h : leR a b) {i : Nat} {v : Value} (hi : lk a i = some v) : lk b i = some v := by
  induction a generalizing b i with
  | nil => simp [lk] at hi
  | cons x t ih =>
    cases b with
    | nil => exact h.elim
    | cons y u =>
      cases i with
      | zero =>
        rcases h.1 with e | e
        · simp [lk, e] at hi
        · simp [lk, ← e] at hi ⊢; exact hi
      | succ i => exact ih h.2 hi
theorem leR_len {a b : A_R} (h : leR a b) : a.length = b.length := by
  induction a generalizing b with
  | nil => cases b with
    | nil => rfl
    | cons => exact h.elim
  | cons x t ih => cases b with
    | nil => exact h.elim
    | cons y u => simp [ih h.2]
theorem Sm_le {r1 : A_R} (h : leR r1 r) (kk : Sm G X w nc ns r1 st pc) : Sm G X w nc ns r st pc := fun H locs ls hw hS hl => kk H locs ls hw hS ⟨hl.1.trans (leR_len h).symm, hl.2.1, fun i v hi => hl.2.2 i v (leR_lk h hi)⟩
end SMB
/-! contracts -/
def Pw (G : Gx) (w : A_W) (U : State) : Prop := WD G w U.heap ∧ KK G U
def Qw (G : Gx) (v : Option Value) (w1 : A_W) : Array Value → State → Outcome → State → Prop := fun _ s oc t => (oc = .returned (v.map (rl G)) ∧ Pw G w1 t) ∧ va_F (gA G) s t
def Cn (G : Gx) (y : MethodName) (bytes : ByteArray) (maxL : Nat) (ret : Option FieldType) (rm : Room) (as : List Value) (w : A_W) (v : Option Value) (w1 : A_W) : Prop :=
  Met (gL G) y (Cond.code y bytes maxL ret :: lg) rm (va_Pc (as.map (rl G)) (Pw G w)) (Qw G v w1) rm.cells rm.slots (gA G)
/-- a method's own facts: code, class, number of parameters -/
def Cy (y : MethodName) (bytes : ByteArray) (maxL : Nat) (ret : Option FieldType) (n : Nat) : Prop :=
  Cond.code y bytes maxL ret ∈ lg ∧ Cond.initialized y.cls ∈ lg ∧ (y.cls ≠ "java/lang/invoke/MethodHandle" ∧ y.cls ≠ "java/lang/invoke/VarHandle" ∧ (parseMethodDescriptor y.desc).map (fun d => d.parameters.length) = some n) ∧ plainName y.cls = true
theorem lg_good {y : MethodName} {bytes : ByteArray} {maxL : Nat} {ret : Option FieldType} (h : Cond.code y bytes maxL ret ∈ lg) : GoodIn lg (Cond.code y bytes maxL ret :: lg) := by
  have key : ∀ w ∈ lg, w ∈ lg ∧ ((w.onTables && w.keeps) = true ∨ ∃ ty, w = .arrayClass ty) := fun w hw => ⟨hw, good_of_word (List.all_eq_true.mp lg_all w hw)⟩
  intro w hw
  rcases List.mem_cons.mp hw with rfl | hw
  · exact key _ h
  · exact key _ hw
section SMC
variable {G : Gx} {X : Cx} {own nL : Nat} {cc : ByteArray} {rt : Option FieldType} {R rm : Room} {w w1 : A_W} {nc ns : Nat} {r : A_R} {st st0 : List Value} {pc : Nat}
theorem Pw_blind {as : List Value} : FrameBlind (va_Pc as (Pw G w)) := fun a U g mk q => ⟨q.1, q.2.1, q.2.2.same (s := U) (U := U.calling g mk a) rfl rfl⟩
theorem Pw_of (K : Ok G X own cc nL rt R) {H : Heap} {locs : List Loc} (hw : WD G w H) (hS : va_S (gA G) (xS X).heap H locs) {U : State} (hU : U.heap = H) (hW : (xS X).WarmedH U.vm) : Pw G w U := ⟨by rw [hU]; exact hw, K.2.2.2.2.2.2.1.moved hW (fun a h1 h2 => by rw [hU]; exact hS.2.1 a h1 h2)⟩
theorem Sm_go {v : Option Value} {mc ms : Nat} {aa : Array Value} (hr : ∀ (H : Heap) (locs : List Loc) (ls : Array Slot), WD G w H → va_S (gA G) (xS X).heap H locs → LH G ls r → va_Run (xP X) (gL G) (xE X) (xR X) (xS X) (xM X) (xG X) (xB X) (xH X) (xC X) H locs nc ns mc ms (F0 (xM X) pc ls (st0.map (rl G))) (st.map (rl G)) (Qw G v w1 aa) (gA G)) (kk : Sm G X w1 (nc + mc) (ns + ms) r (v.toList ++ st) (pc + 3)) : Sm G X w nc ns r st0 pc := by
  intro H locs ls hw hS hl T hT Z
  obtain ⟨v1, s0, t, T1, L, h0, Z1, hL, e1, e2, ⟨⟨hv, hb⟩, hz, hk⟩, sts⟩ := hr H locs ls hw hS hl T hT Z
  have hv : v1 = v.map (rl G) := by cases hv; rfl
  subst hv
  rw [h0] at hz hk
  obtain ⟨t2, a1, b1⟩ := kk T1.heap (locs ++ L) ls (by rw [e1]; exact hb.1) ⟨Nat.le_trans hS.1 (by rw [e1]; exact hz), fun q g1 g2 => by rw [e1, hk q (Nat.lt_of_lt_of_le g1 hS.1) g2]; exact hS.2.1 q g1 g2, fun q hq => by
      rcases List.mem_append.mp hq with h | h
      · exact hS.2.2 q h
      · exact hL q h⟩ hl T1 rfl Z1
  refine ⟨t2, sts t2 ?_, b1⟩
  have e : (v.toList ++ st).map (rl G) = (v.map (rl G)).toList ++ st.map (rl G) := by cases v <;> simp
  rw [e] at a1
  exact a1
theorem map_call {as : List Value} {b : Nat} : (as.reverse ++ .ref b :: st).map (rl G) = (as.map (rl G)).reverse ++ .ref (ad G b) :: st.map (rl G) := by simp [rl]
theorem map_callS {as : List Value} : (as.reverse ++ st).map (rl G) = (as.map (rl G)).reverse ++ st.map (rl G) := by simp
variable {y : MethodName} {bytes : ByteArray} {maxL n idx : Nat} {ret : Option FieldType} {as : List Value} {v : Option Value}
theorem Sm_callB (K : Ok G X own cc nL rt R) (hy : Cy y bytes maxL ret n) (hl : Cond.methodLink (Rn own) idx y ∈ lg) (hR : rm.frames + 1 ≤ R.frames ∧ 8 + (maxL + 11) + rm.locals ≤ R.locals) : CallB (xR X) (xS X) (xG X) (Rn own) idx y bytes maxL ret (Cond.code y bytes maxL ret :: lg) rm rm.cells rm.slots n :=
  callB_of n K.2.2.2.2.2.1 (lg_good hy.1) rfl rfl rfl (K.2.2.2.2.2.1 _ hy.2.1) (K.2.2.2.2.2.1 _ hl) hy.2.2.1 (by rw [K.2.2.2.2.2.2.2.2.1]; exact hR)
theorem Sm_callN (K : Ok G X own cc nL rt R) {host : String} (hy : Cy y bytes maxL ret n) (hl : (Rn own, idx, y, host) ∈ nst) (hR : rm.frames + 1 ≤ R.frames ∧ 8 + (maxL + 11) + rm.locals ≤ R.locals) : va_CN (xR X) (xS X) (xG X) (Rn own) idx y host bytes maxL ret (Cond.code y bytes maxL ret :: lg) rm rm.cells rm.slots n :=
  va_cnB n K.2.2.2.2.2.1 (lg_good hy.1) rfl rfl rfl (K.2.2.2.2.2.2.1.2.1 _ hl) (K.2.2.2.2.2.1 _ hy.2.1) hy.2.2.1 (by rw [K.2.2.2.2.2.2.2.2.1]; exact hR)
theorem Sm_callV (K : Ok G X own cc nL rt R) (hd : decode cc pc = .ok (.invokevirtual idx, 3)) (hy : Cy y bytes maxL ret n) (hi : Cond.instanceMethod y ∈ lg) (hs : Cond.selects y.cls y y ∈ lg) (hl : Cond.methodLink (Rn own) idx y ∈ lg) (hR : rm.frames + 1 ≤ R.frames ∧ 8 + (maxL + 11) + rm.locals ≤ R.locals) {b ci : Nat} {fs : List Value} (hb : w[b]? = some (.inr (.inr (ci, fs)))) (hci : ci < 5) (hyc : y.cls = Rn ci) (hn : as.length = n) (hlen : r.length = nL) (hst : st0 = as.reverse ++ .ref b :: st) (hcat : ((st.map (rl G)).map fun v => v.category).sum ≤ 8) (hf : nc + rm.cells ≤ R.cells ∧ ns + rm.slots ≤ R.slots) (hM : Cn G y bytes maxL ret rm (.ref b :: as) w v w1) (kk : Sm G X w1 (nc + rm.cells) (ns + rm.slots) r (v.toList ++ st) (pc + 3)) : Sm G X w nc ns r st0 pc := by
  refine Sm_go (aa := (Value.ref (ad G b) :: as.map (rl G)).toArray) (fun H locs ls hw hS hl1 => ?_) kk
  subst hst
  rw [map_call]
  refine va_runV (cc := cc) (nL := nL) (Ts := lg) (own := Rn own) (C := y.cls) (As := as.map (rl G)) ⟨K.1, K.2.1, K.2.2.2.1, K.2.2.2.2.1, K.2.2.2.2.2.1⟩ hM ⟨Sm_callB K hy hl hR, K.2.2.2.2.2.1 _ hi, K.2.2.2.2.2.1 _ hs⟩ ⟨Pw_blind, ?_, fun U hU hW => ⟨rfl, Pw_of K hw hS hU hW⟩⟩ rfl (by rw [List.length_map]; exact hn) (hl1.1.trans hlen) rfl (lv_room hcat) hd (by rw [K.2.2.2.2.2.2.2.2.1]; exact hf)
  rw [hyc]
  exact va_recv K.2.2.2.2.2.2.1.1 (WD_P hw hb) (cls_at hci) (q0 := 0) rfl
theorem Sm_callS (K : Ok G X own cc nL rt R) (hd : decode cc pc = .ok (.invokestatic idx, 3)) (hy : Cy y bytes maxL ret n) (hs : Cond.static y ∈ lg) (hl : Cond.methodLink (Rn own) idx y ∈ lg) (hR : rm.frames + 1 ≤ R.frames ∧ 8 + (maxL + 11) + rm.locals ≤ R.locals) (hn : as.length = n) (hlen : r.length = nL) (hst : st0 = as.reverse ++ st) (hcat : ((st.map (rl G)).map fun v => v.category).sum ≤ 8) (hf : nc + rm.cells ≤ R.cells ∧ ns + rm.slots ≤ R.slots) (hM : Cn G y bytes maxL ret rm as w v w1) (kk : Sm G X w1 (nc + rm.cells) (ns + rm.slots) r (v.toList ++ st) (pc + 3)) : Sm G X w nc ns r st0 pc := by
  refine Sm_go (aa := (as.map (rl G)).toArray) (fun H locs ls hw hS hl1 => ?_) kk
  subst hst
  rw [map_callS]
  exact va_runS (cc := cc) (nL := nL) (Ts := lg) (own := Rn own) (As := as.map (rl G)) ⟨K.1, K.2.1, K.2.2.2.1, K.2.2.2.2.1, K.2.2.2.2.2.1⟩ hM ⟨Sm_callB K hy hl hR, K.2.2.2.2.2.1 _ hs⟩ ⟨Pw_blind, fun U hU hW => ⟨rfl, Pw_of K hw hS hU hW⟩⟩ rfl (by rw [List.length_map]; exact hn) (hl1.1.trans hlen) rfl (lv_room hcat) hd (by rw [K.2.2.2.2.2.2.2.2.1]; exact hf)
theorem Sm_callSN (K : Ok G X own cc nL rt R) {host : String} (hd : decode cc pc = .ok (.invokestatic idx, 3)) (hy : Cy y bytes maxL ret n) (hs : Cond.static y ∈ lg) (hl : (Rn own, idx, y, host) ∈ nst) (hR : rm.frames + 1 ≤ R.frames ∧ 8 + (maxL + 11) + rm.locals ≤ R.locals) (hn : as.length = n) (hlen : r.length = nL) (hst : st0 = as.reverse ++ st) (hcat : ((st.map (rl G)).map fun v => v.category).sum ≤ 8) (hf : nc + rm.cells ≤ R.cells ∧ ns + rm.slots ≤ R.slots) (hM : Cn G y bytes maxL ret rm as w v w1) (kk : Sm G X w1 (nc + rm.cells) (ns + rm.slots) r (v.toList ++ st) (pc + 3)) : Sm G X w nc ns r st0 pc := by
  refine Sm_go (aa := (as.map (rl G)).toArray) (fun H locs ls hw hS hl1 => ?_) kk
  subst hst
  rw [map_callS]
  exact va_runSN (cc := cc) (nL := nL) (Ts := lg) (own := Rn own) (As := as.map (rl G)) ⟨K.1, K.2.1, K.2.2.2.1, K.2.2.2.2.1, K.2.2.2.2.2.1⟩ hM ⟨Sm_callN K hy hl hR, K.2.2.2.2.2.1 _ hs, trivial⟩ ⟨Pw_blind, fun U hU hW => ⟨rfl, Pw_of K hw hS hU hW⟩⟩ rfl (by rw [List.length_map]; exact hn) (hl1.1.trans hlen) rfl (lv_room hcat) hd (by rw [K.2.2.2.2.2.2.2.2.1]; exact hf)
theorem Sm_callI (K : Ok G X own cc nL rt R) (hd : decode cc pc = .ok (.invokespecial idx, 3)) (hy : Cy y bytes maxL none n) (hi : Cond.instanceMethod y ∈ lg) (hnm : y.name = "<init>") (hl : Cond.methodLink (Rn own) idx y ∈ lg) (hR : rm.frames + 1 ≤ R.frames ∧ 8 + (maxL + 11) + rm.locals ≤ R.locals) {b : Nat} (hn : as.length = n) (hlen : r.length = nL) (hst : st0 = as.reverse ++ .ref b :: st) (hcat : ((st.map (rl G)).map fun v => v.category).sum ≤ 8) (hf : nc + rm.cells ≤ R.cells ∧ ns + rm.slots ≤ R.slots) (hM : Cn G y bytes maxL none rm (.ref b :: as) w v w1) (kk : Sm G X w1 (nc + rm.cells) (ns + rm.slots) r (v.toList ++ st) (pc + 3)) : Sm G X w nc ns r st0 pc := by
  refine Sm_go (aa := (Value.ref (ad G b) :: as.map (rl G)).toArray) (fun H locs ls hw hS hl1 => ?_) kk
  subst hst
  rw [map_call]
  exact va_runI (cc := cc) (nL := nL) (Ts := lg) (own := Rn own) (As := as.map (rl G)) ⟨K.1, K.2.1, K.2.2.2.1, K.2.2.2.2.1, K.2.2.2.2.2.1⟩ hM ⟨Sm_callB K hy hl hR, hnm, K.2.2.2.2.2.1 _ hi⟩ ⟨Pw_blind, fun U hU hW => ⟨rfl, Pw_of K hw hS hU hW⟩⟩ rfl (by rw [List.length_map]; exact hn) (hl1.1.trans hlen) rfl (lv_room hcat) hd (by rw [K.2.2.2.2.2.2.2.2.1]; exact hf)
theorem Sm_callIN (K : Ok G X own cc nL rt R) {host : String} (hd : decode cc pc = .ok (.invokespecial idx, 3)) (hy : Cy y bytes maxL none n) (hi : Cond.instanceMethod y ∈ lg) (hnm : y.name = "<init>") (hl : (Rn own, idx, y, host) ∈ nst) (hR : rm.frames + 1 ≤ R.frames ∧ 8 + (maxL + 11) + rm.locals ≤ R.locals) {b : Nat} (hn : as.length = n) (hlen : r.length = nL) (hst : st0 = as.reverse ++ .ref b :: st) (hcat : ((st.map (rl G)).map fun v => v.category).sum ≤ 8) (hf : nc + rm.cells ≤ R.cells ∧ ns + rm.slots ≤ R.slots) (hM : Cn G y bytes maxL none rm (.ref b :: as) w v w1) (kk : Sm G X w1 (nc + rm.cells) (ns + rm.slots) r (v.toList ++ st) (pc + 3)) : Sm G X w nc ns r st0 pc := by
  refine Sm_go (aa := (Value.ref (ad G b) :: as.map (rl G)).toArray) (fun H locs ls hw hS hl1 => ?_) kk
  subst hst
  rw [map_call]
  exact va_runIN (cc := cc) (nL := nL) (Ts := lg) (own := Rn own) (As := as.map (rl G)) ⟨K.1, K.2.1, K.2.2.2.1, K.2.2.2.2.1, K.2.2.2.2.2.1⟩ hM ⟨Sm_callN K hy hl hR, hnm, K.2.2.2.2.2.1 _ hi⟩ ⟨Pw_blind, fun U hU hW => ⟨rfl, Pw_of K hw hS hU hW⟩⟩ rfl (by rw [List.length_map]; exact hn) (hl1.1.trans hlen) rfl (lv_room hcat) hd (by rw [K.2.2.2.2.2.2.2.2.1]; exact hf)
/-- the goal of a method's body -/
def QQ (G : Gx) (X : Cx) (v : Option Value) (w1 : A_W) (mc ms : Nat) : Prop := xQ X = MQ (xB X) (Qw G v w1) (xG X) (xS X) mc ms (gA G)
theorem Qw_of (K : Ok G X own cc nL rt R) {H : Heap} {locs : List Loc} (hw : WD G w H) (hS : va_S (gA G) (xS X).heap H locs) {v : Option Value} {aa : Array Value} : ∀ t : State, t.heap = H → (xS X).WarmedH t.vm → Qw G v w aa (xS X) (.returned (v.map (rl G))) t := fun t ht hW => ⟨⟨rfl, Pw_of K hw hS ht hW⟩, hS.F ht⟩
theorem Sm_reti (K : Ok G X own cc nL (some .int) R) {x : Int32} (hQ : QQ G X (some (.int x)) w nc ns) (hd : decode cc pc = .ok (.ireturn, 1)) : Sm G X w nc ns r [.int x] pc := by
  intro H locs ls hw hS hl
  rw [hQ]
  exact W.iret K.1 K.2.1 K.2.2.1 (Qw_of K hw hS (v := some (.int x))) hS.2.2 hd K.2.2.2.2.2.2.2.1
theorem Sm_retz (K : Ok G X own cc nL (some .boolean) R) {x y : Int32} (hb : bz x = some y) (hQ : QQ G X (some (.int y)) w nc ns) (hd : decode cc pc = .ok (.ireturn, 1)) : Sm G X w nc ns r [.int x] pc := by
  obtain ⟨rfl, hx⟩ := bz_e hb
  intro H locs ls hw hS hl
  rw [hQ]
  exact W.zret K.1 K.2.1 K.2.2.1 (by rcases hx with rfl | rfl <;> rfl) (Qw_of K hw hS (v := some (.int y))) hS.2.2 hd K.2.2.2.2.2.2.2.1
theorem Sm_retl (K : Ok G X own cc nL (some .long) R) {x : Int64} (hQ : QQ G X (some (.long x)) w nc ns) (hd : decode cc pc = .ok (.lreturn, 1)) : Sm G X w nc ns r [.long x] pc := by
  intro H locs ls hw hS hl
  rw [hQ]
  exact W.lret K.1 K.2.1 K.2.2.1 (Qw_of K hw hS (v := some (.long x))) hS.2.2 hd K.2.2.2.2.2.2.2.1
theorem Sm_reta {ft : FieldType} (K : Ok G X own cc nL (some ft) R) (hft : (∃ n, ft = .object n) ∨ ∃ t, ft = .array t) {x : Nat} (hQ : QQ G X (some (.ref x)) w nc ns) (hd : decode cc pc = .ok (.areturn, 1)) : Sm G X w nc ns r [.ref x] pc := by
  intro H locs ls hw hS hl
  rw [hQ]
  exact W.aret K.1 K.2.1 K.2.2.1 hft (Or.inr ⟨_, rfl⟩) (Qw_of K hw hS (v := some (.ref x))) hS.2.2 hd K.2.2.2.2.2.2.2.1
theorem Sm_retv (K : Ok G X own cc nL none R) (hQ : QQ G X none w nc ns) (hd : decode cc pc = .ok (.return_, 1)) : Sm G X w nc ns r [] pc := by
  intro H locs ls hw hS hl
  rw [hQ]
  exact W.vret K.1 K.2.1 K.2.2.1 (Qw_of K hw hS (v := none)) hS.2.2 hd K.2.2.2.2.2.2.2.1
theorem lv_args1 {as : List Value} (h : as.all (fun v => v.category == 1) = true) (G : Gx) : ∀ (i j : Nat) (v : Value) (m : Nat), lk (as.map some ++ List.replicate m none) j = some v → (i + j, rl G v) ∈ lv_args i (as.map (rl G)) := by
  induction as with
  | nil =>
    intro i j v m hj
    exfalso
    induction m generalizing j with
    | zero => simp [lk] at hj
    | succ m ih => cases j with
      | zero => simp [lk, List.replicate] at hj
      | succ j => exact ih j (by simpa [lk, List.replicate] using hj)
  | cons a t ih =>
    intro i j v m hj
    have h1 : a.category = 1 := by simpa using (List.all_eq_true.mp h a List.mem_cons_self)
    cases j with
    | zero => simp [lk] at hj; subst hj; exact List.mem_cons_self
    | succ j =>
      have := ih (List.all_eq_true.mpr fun x hx => List.all_eq_true.mp h x (List.mem_cons_of_mem _ hx)) (i + 1) j v m (by simpa [lk] using hj)
      refine List.mem_cons_of_mem _ ?_
      rw [if_neg (by rw [rl_cat, h1]; decide)]
      rwa [show i + (j + 1) = i + 1 + j by omega]
theorem lg_sl1 {as : List Value} (h : as.all (fun v => v.category == 1) = true) (G : Gx) : (lg_sl (as.map (rl G))).length = as.length := by
  induction as with
  | nil => rfl
  | cons a t ih =>
    have h1 : a.category = 1 := by simpa using (List.all_eq_true.mp h a List.mem_cons_self)
    have h2 := ih (List.all_eq_true.mpr fun x hx => List.all_eq_true.mp h x (List.mem_cons_of_mem _ hx))
    unfold lg_sl at h2 ⊢
    rw [List.map_cons, List.flatMap_cons, if_neg (by rw [rl_cat, h1]; decide), List.length_append, h2]
    simp; omega
/-- a contract out of a walk of the body -/
theorem Cn_of {own : Nat} (hy : Cy y bytes maxL ret n) (hc : y.cls = Rn own) (h1 : as.all (fun v => v.category == 1) = true) (hml : as.length ≤ maxL) (hr : r = as.map some ++ List.replicate (maxL - as.length) none) (body : ∀ X : Cx, Ok G X own bytes maxL ret rm → (xH X).name = y.name → QQ G X v w1 rm.cells rm.slots → Sm G X w 0 0 r [] 0) : Cn G y bytes maxL ret rm as w v w1 := by
  refine Met.ofW (cc := bytes) (maxL := maxL) (ret := ret) hy.2.2.2 rfl ?_
  intro p e s m args below meth c s₁ B hm hv
  obtain ⟨rfl, hP, hKK⟩ := hv
  have hts := atoms_spec (ws := Cond.code y bytes maxL ret :: lg) B.pre
  have hown : s.vm.findClass (Rn own) = some m.cls := by rw [← hc]; exact findClass_of_methodNamed B.named
  rw [lg_entry_eq]
  have hl := lv_entry (as.map (rl G)) (n := maxL) (by rw [lg_sl1 h1]; exact hml)
  have hrl : r.length = maxL := by rw [hr]; simp; omega
  have hLH : LH G (lg_sl (as.map (rl G)) ++ List.replicate (maxL - (lg_sl (as.map (rl G))).length) Slot.unset).toArray r := by
    refine LH.of (by rw [hrl]; exact hl) fun i v hi => ?_
    rw [hr] at hi
    have := lv_args1 h1 G 0 i v _ hi
    rwa [Nat.zero_add] at this
  have hb : gB G ≤ s.heap.size := by rw [hP.1]; exact Nat.le_add_right _ _
  exact body (p, e, (headSpec (Cond.code y bytes maxL ret :: lg) rm).room, s, m, _, below, meth, c, MQ below (Qw G v w1) _ s rm.cells rm.slots (gA G)) ⟨B.exec, B.bytes, B.returns, hm, hown, fun x hx => hts x (List.mem_cons_of_mem _ hx), hKK, B.notSynchronized, rfl, hb⟩ (name_of_methodNamed B.named B.method).1 rfl s.heap [] _ hP va_S.rf hLH
end SMC
