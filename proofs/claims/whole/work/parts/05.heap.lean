/-! THE RULES that read and write the world, branch, call and return -/
def gf (w : A_W) (a ci k : Nat) : Option Value := match w[a]? with
  | some (.inr (.inr (c, fs))) => if c = ci then fs[k]? else none
  | _ => none
def gi (w : A_W) (a ci k : Nat) : Option Int32 := match gf w a ci k with
  | some (.int v) => some v
  | _ => none
def gr (w : A_W) (a ci k : Nat) : Option Nat := match gf w a ci k with
  | some (.ref v) => some v
  | _ => none
def pf (w : A_W) (a ci k : Nat) (v : Value) : Option A_W := match w[a]? with
  | some (.inr (.inr (c, fs))) => if c = ci ∧ k < fs.length then some (w.set a (.inr (.inr (c, fs.set k v)))) else none
  | _ => none
abbrev inb (i : Int32) (n : Nat) : Prop := ¬ i < 0 ∧ i.toNatClampNeg < n
def rd (w : A_W) (a : Nat) (i : Int32) : Option Int32 := match w[a]? with
  | some (.inl (n, f)) => if inb i n then some (f i.toNatClampNeg) else none
  | _ => none
def rs (j : Nat) (i : Int32) : Option Int32 := match sarr[j]? with
  | some q => if inb i q.2.2.length then some (q.2.2.getD i.toNatClampNeg 0) else none
  | _ => none
def wr (w : A_W) (a : Nat) (i v : Int32) : Option A_W := match w[a]? with
  | some (.inl (n, f)) => if inb i n then some (w.set a (.inl (n, upd f i.toNatClampNeg v))) else none
  | _ => none
def ra (w : A_W) (a : Nat) (i : Int32) : Option Nat := match w[a]? with
  | some (.inr (.inl (n, f))) => if inb i n then f i.toNatClampNeg else none
  | _ => none
def wa (w : A_W) (a : Nat) (i : Int32) (b : Nat) : Option A_W := match w[a]? with
  | some (.inr (.inl (n, f))) => (match w[b]? with
    | some (.inr (.inr (c, _))) => if inb i n ∧ c = 3 then some (w.set a (.inr (.inl (n, va_up f i.toNatClampNeg (some b))))) else none
    | _ => none)
  | _ => none
def al (w : A_W) (a : Nat) : Option Int32 := match w[a]? with
  | some (.inl (n, _)) => some (Int32.ofNat n)
  | _ => none
def bz (v : Int32) : Option Int32 := if v = 0 ∨ v = 1 then some v else none
theorem vp_inb {i : Int32} {n : Nat} (h : inb i n) : vp_in i n := fun z => z.elim h.1 (fun q => absurd h.2 (Nat.not_lt.mpr q))
theorem gf_e {w : A_W} {a ci k : Nat} {v : Value} (h : gf w a ci k = some v) : ∃ fs, w[a]? = some (.inr (.inr (ci, fs))) ∧ fs[k]? = some v := by
  unfold gf at h
  split at h
  · rename_i c fs hw
    split at h
    · rename_i e; subst e; exact ⟨fs, hw, h⟩
    · cases h
  · cases h
theorem gi_e {w : A_W} {a ci k : Nat} {v : Int32} (h : gi w a ci k = some v) : gf w a ci k = some (.int v) := by
  unfold gi at h
  split at h
  · rename_i x hx; cases h; exact hx
  · cases h
theorem gr_e {w : A_W} {a ci k : Nat} {v : Nat} (h : gr w a ci k = some v) : gf w a ci k = some (.ref v) := by
  unfold gr at h
  split at h
  · rename_i x hx; cases h; exact hx
  · cases h
theorem pf_e {w w1 : A_W} {a ci k : Nat} {v : Value} (h : pf w a ci k v = some w1) : ∃ fs, w[a]? = some (.inr (.inr (ci, fs))) ∧ k < fs.length ∧ w1 = w.set a (.inr (.inr (ci, fs.set k v))) := by
  unfold pf at h
  split at h
  · rename_i c fs hw
    split at h
    · rename_i e; obtain ⟨rfl, hk⟩ := e; cases h; exact ⟨fs, hw, hk, rfl⟩
    · cases h
  · cases h
theorem rd_e {w : A_W} {a : Nat} {i v : Int32} (h : rd w a i = some v) : ∃ n f, w[a]? = some (.inl (n, f)) ∧ inb i n ∧ v = f i.toNatClampNeg := by
  unfold rd at h
  split at h
  · rename_i n f hw
    split at h
    · rename_i e; cases h; exact ⟨n, f, hw, e, rfl⟩
    · cases h
  · cases h
theorem rs_e {j : Nat} {i v : Int32} (h : rs j i = some v) : ∃ q, sarr[j]? = some q ∧ inb i q.2.2.length ∧ v = q.2.2.getD i.toNatClampNeg 0 := by
  unfold rs at h
  split at h
  · rename_i q hq
    split at h
    · rename_i e; cases h; exact ⟨q, hq, e, rfl⟩
    · cases h
  · cases h
theorem wr_e {w w1 : A_W} {a : Nat} {i v : Int32} (h : wr w a i v = some w1) : ∃ n f, w[a]? = some (.inl (n, f)) ∧ inb i n ∧ w1 = w.set a (.inl (n, upd f i.toNatClampNeg v)) := by
  unfold wr at h
  split at h
  · rename_i n f hw
    split at h
    · rename_i e; cases h; exact ⟨n, f, hw, e, rfl⟩
    · cases h
  · cases h
theorem ra_e {w : A_W} {a b : Nat} {i : Int32} (h : ra w a i = some b) : ∃ n f, w[a]? = some (.inr (.inl (n, f))) ∧ inb i n ∧ f i.toNatClampNeg = some b := by
  unfold ra at h
  split at h
  · rename_i n f hw
    split at h
    · rename_i e; exact ⟨n, f, hw, e, h⟩
    · cases h
  · cases h
theorem wa_e {w w1 : A_W} {a b : Nat} {i : Int32} (h : wa w a i b = some w1) : ∃ n f fs, w[a]? = some (.inr (.inl (n, f))) ∧ w[b]? = some (.inr (.inr (3, fs))) ∧ inb i n ∧ w1 = w.set a (.inr (.inl (n, va_up f i.toNatClampNeg (some b)))) := by
  unfold wa at h
  split at h
  · rename_i n f hw
    split at h
    · rename_i c fs hb
      split at h
      · rename_i e; obtain ⟨e1, rfl⟩ := e; cases h; exact ⟨n, f, fs, hw, hb, e1, rfl⟩
      · cases h
    · cases h
  · cases h
theorem al_e {w : A_W} {a : Nat} {v : Int32} (h : al w a = some v) : ∃ n f, w[a]? = some (.inl (n, f)) ∧ v = Int32.ofNat n := by
  unfold al at h
  split at h
  · rename_i n f hw; cases h; exact ⟨n, f, hw, rfl⟩
  · cases h
theorem bz_e {v x : Int32} (h : bz v = some x) : x = v ∧ (v = 0 ∨ v = 1) := by
  unfold bz at h
  split at h
  · rename_i e; cases h; exact ⟨rfl, e⟩
  · cases h
theorem dcl0 : ∀ k, k < Nn 0 → (Tn 0 k).1 = Rn 0 := by decide +kernel
theorem dcl1 : ∀ k, k < Nn 1 → (Tn 1 k).1 = Rn 1 := by decide +kernel
theorem dcl2 : ∀ k, k < Nn 2 → (Tn 2 k).1 = Rn 2 := by decide +kernel
theorem dcl3 : ∀ k, k < Nn 3 → (Tn 3 k).1 = Rn 3 := by decide +kernel
theorem dcl4 : ∀ k, k < Nn 4 → (Tn 4 k).1 = Rn 4 := by decide +kernel
theorem dcl {ci : Nat} (h : ci < 5) : ∀ k, k < Nn ci → (Tn ci k).1 = Rn ci := fiveQ (P := fun ci => ∀ k, k < Nn ci → (Tn ci k).1 = Rn ci) dcl0 dcl1 dcl2 dcl3 dcl4 h
theorem exF_e {own : Nat} {pc len nx ci k pl idx : Nat} {ins : Instr} {v : Value} (h : exF own (pc, ins, len, nx, v, ci, k, pl) idx = true) : ci < 5 ∧ k < Nn ci ∧ Cond.fieldLink (Rn own) idx (Rn ci) (Tn ci k).2.1 (Tn ci k).2.2.1 ∈ lg := by
  unfold exF at h
  have h := Bool.and_eq_true_iff.mp h
  have h2 := Bool.and_eq_true_iff.mp h.2
  exact ⟨of_decide_eq_true h.1, of_decide_eq_true h2.1, lgm _ (of_decide_eq_true h2.2) rfl⟩
section SMH
variable {G : Gx} {X : Cx} {own nL : Nat} {cc : ByteArray} {rt : Option FieldType} {rm : Room} {w w1 : A_W} {nc ns : Nat} {r : A_R} {st : List Value} {pc : Nat} {len nx ci k pl idx : Nat} {v0 v : Value}
theorem Sm_gf (K : Ok G X own cc nL rt rm) (hq : eok own cc (pc, .getfield idx, len, nx, v0, ci, k, pl) = true) {a : Nat} (h : gf w a ci k = some v) (kk : Sm G X w nc ns r (v :: st) (pc + 3)) : Sm G X w nc ns r (.ref a :: st) pc := by
  intro H locs ls hw hS hl
  obtain ⟨fs, he, hv⟩ := gf_e h
  obtain ⟨hci, hk, hm⟩ := exF_e (eok_x hq)
  refine va_get (D := gD G) (ci := ci) (v := rl G v) (C := Rn ci) (T := Tn ci) (N := Nn ci) K.1 K.2.1 K.2.2.2.2.2.1 (inn hci) K.2.2.2.2.1 K.2.2.2.2.2.2.1.1 (WD_P hw he) 0 rfl (cls_at hci) k hk (K.2.2.2.2.2.1 _ hm) (fun x h9 => by rw [dcl hci k hk] at h9; exact h9) ?_ (eok_i hq rfl) (kk H locs ls hw hS hl)
  rw [List.getElem?_map, hv]; rfl
theorem Sm_gi (K : Ok G X own cc nL rt rm) (hq : eok own cc (pc, .getfield idx, len, nx, v0, ci, k, pl) = true) {a : Nat} {x : Int32} (h : gi w a ci k = some x) (kk : Sm G X w nc ns r (.int x :: st) (pc + 3)) : Sm G X w nc ns r (.ref a :: st) pc := Sm_gf K hq (gi_e h) kk
theorem Sm_gr (K : Ok G X own cc nL rt rm) (hq : eok own cc (pc, .getfield idx, len, nx, v0, ci, k, pl) = true) {a : Nat} {x : Nat} (h : gr w a ci k = some x) (kk : Sm G X w nc ns r (.ref x :: st) (pc + 3)) : Sm G X w nc ns r (.ref a :: st) pc := Sm_gf K hq (gr_e h) kk
theorem Sm_pf (K : Ok G X own cc nL rt rm) (hq : eok own cc (pc, .putfield idx, len, nx, v0, ci, k, pl) = true) (hfin : (Tn ci k).2.2.2 = false) {a : Nat} (h : pf w a ci k v = some w1) (hn : narrow (tyn ci k) (rl G v) = rl G v) (hfit : fits (tyn ci k) (rl G v) = true) (kk : Sm G X w1 nc ns r st (pc + 3)) : Sm G X w nc ns r (v :: .ref a :: st) pc := by
  intro H locs ls hw hS hl
  obtain ⟨fs, he, hkl, rfl⟩ := pf_e h
  obtain ⟨hci, hk, hm⟩ := exF_e (eok_x hq)
  have hts := K.2.2.2.2.2.1
  have hin := inn hci
  have hK := K.2.2.2.2.2.2.1.1
  have hc := cls_at hci
  have hap := va_apart (own := Rn own) hts hin (tyn ci) (tokn hci) (nmn hci) hK hc
  obtain ⟨q, h1, cell, q1, q2, q3, q4⟩ := WD_at hw he
  have hr : q = (Rn ci, Tn ci, Nn ci) := Option.some.inj (h1.symm.trans hc)
  subst hr
  obtain ⟨hSl, hfc, kC, hkC, hkind⟩ := hK.1 ci _ hc
  obtain ⟨cf, kf, fi, f, hi, hsl⟩ := hSl k hk
  have hlay := hts _ (hin _ (u_in_lay hk))
  unfold u_lay at hlay
  rw [if_neg (by rw [hfin]; decide)] at hlay
  have hst := (u_facts hfc hkC (u_lays hts hin hk) hi).1
  have h6 := u_store hfc hkC hkind hlay hi (tokn hci k hk) hn hfit
  have hi2 := hi
  rw [show (Tn ci k).1 = Rn ci from dcl hci k hk] at hi2
  refine W.putK K.1 K.2.1 (f := f) ⟨K.2.2.2.2.1, hts _ hm, ⟨_, _, _, hi2⟩, hst⟩ (by rw [q2]; exact h6) q1 q3 (by rw [hsl]; exact k2_hasslot (q4 k hk)) rfl rfl (eok_i hq rfl) fun H1 e1 e2 e3 => ?_
  rw [hsl] at e1 ⊢
  have hA : gA G (ad G a) := by rw [WD_ad hw he]; exact Nat.le_add_right _ _
  refine kk H1 _ ls (WD_set hw he e2 e3 ⟨_, hc, ?_⟩) (hS.put e2 e3 hA) hl
  refine t_OB.to (V := updV (vp_V (fs.map (rl G))) k (rl G v)) ⟨_, e1, q2, q3, t_set q4 hap hk _⟩ (fun j _ => ?_)
  rw [vp_updV_set (by rw [List.length_map]; exact hkl), List.map_set]
theorem Sm_pi (K : Ok G X own cc nL rt rm) (hq : eok own cc (pc, .putfield idx, len, nx, v0, ci, k, pl) = true) (hfin : (Tn ci k).2.2.2 = false) (hty : tyn ci k = .int) {a : Nat} {x : Int32} (h : pf w a ci k (.int x) = some w1) (kk : Sm G X w1 nc ns r st (pc + 3)) : Sm G X w nc ns r (.int x :: .ref a :: st) pc := Sm_pf K hq hfin h (by rw [hty]; rfl) (by rw [hty]; rfl) kk
theorem Sm_pz (K : Ok G X own cc nL rt rm) (hq : eok own cc (pc, .putfield idx, len, nx, v0, ci, k, pl) = true) (hfin : (Tn ci k).2.2.2 = false) (hty : tyn ci k = .boolean) {a : Nat} {x y : Int32} (hb : bz x = some y) (h : pf w a ci k (.int y) = some w1) (kk : Sm G X w1 nc ns r st (pc + 3)) : Sm G X w nc ns r (.int x :: .ref a :: st) pc := by
  obtain ⟨rfl, hx⟩ := bz_e hb
  refine Sm_pf K hq hfin h ?_ ?_ kk
  · rw [hty]; rcases hx with rfl | rfl <;> rfl
  · rw [hty]; rcases hx with rfl | rfl <;> rfl
theorem Sm_pF (K : Ok G X own cc nL rt rm) (hini : (xH X).name = "<init>") (hq : eok own cc (pc, .putfield idx, len, nx, v0, ci, k, pl) = true) (hfin : (Tn ci k).2.2.2 = true) (hown : Rn ci = Rn own) {a : Nat} (h : pf w a ci k v = some w1) (hn : narrow (tyn ci k) (rl G v) = rl G v) (hfit : fits (tyn ci k) (rl G v) = true) (kk : Sm G X w1 nc ns r st (pc + 3)) : Sm G X w nc ns r (v :: .ref a :: st) pc := by
  intro H locs ls hw hS hl
  obtain ⟨fs, he, hkl, rfl⟩ := pf_e h
  obtain ⟨hci, hk, hm⟩ := exF_e (eok_x hq)
  have hts := K.2.2.2.2.2.1
  have hin := inn hci
  have hK := K.2.2.2.2.2.2.1.1
  have hc := cls_at hci
  have hap := va_apart (own := Rn own) hts hin (tyn ci) (tokn hci) (nmn hci) hK hc
  obtain ⟨q, h1, cell, q1, q2, q3, q4⟩ := WD_at hw he
  have hr : q = (Rn ci, Tn ci, Nn ci) := Option.some.inj (h1.symm.trans hc)
  subst hr
  obtain ⟨hSl, hfc, kC, hkC, hkind⟩ := hK.1 ci _ hc
  obtain ⟨cf, kf, fi, f, hi, hsl⟩ := hSl k hk
  have hlay := hts _ (hin _ (u_in_lay hk))
  unfold u_lay at hlay
  rw [if_pos hfin] at hlay
  have hst := (u_facts hfc hkC (u_lays hts hin hk) hi).1
  have hcf : (xM X).cls = cf := by
    obtain ⟨_, _, c', _, _, _, -, -, hf', -, -, -, hown2, -⟩ := Cond.laysFinal_spec hlay
    have e1 : c' = cf := by have := hi.symm.trans hf'; simp at this; exact this.1.symm
    rw [dcl hci k hk, hown] at hown2
    rw [← e1]; exact Option.some.inj (K.2.2.2.2.1.symm.trans hown2)
  have h6 := u_fits hfc hkC hkind (Or.inr hlay) hi (tokn hci k hk) hn hfit
  have hi2 := hi
  rw [show (Tn ci k).1 = Rn ci from dcl hci k hk] at hi2
  refine W.putFinK K.1 K.2.1 K.2.2.2.2.1 (hts _ hm) hi2 hst hcf hini (by rw [q2]; exact h6) q1 q3 (by rw [hsl]; exact k2_hasslot (q4 k hk)) rfl rfl (eok_i hq rfl) fun H1 e1 e2 e3 => ?_
  rw [hsl] at e1 ⊢
  have hA : gA G (ad G a) := by rw [WD_ad hw he]; exact Nat.le_add_right _ _
  refine kk H1 _ ls (WD_set hw he e2 e3 ⟨_, hc, ?_⟩) (hS.put e2 e3 hA) hl
  refine t_OB.to (V := updV (vp_V (fs.map (rl G))) k (rl G v)) ⟨_, e1, q2, q3, t_set q4 hap hk _⟩ (fun j _ => ?_)
  rw [vp_updV_set (by rw [List.length_map]; exact hkl), List.map_set]
theorem Sm_rd (K : Ok G X own cc nL rt rm) (hd : decode cc pc = .ok (.iaload, 1)) {a : Nat} {i x : Int32} (h : rd w a i = some x) (kk : Sm G X w nc ns r (.int x :: st) (pc + 1)) : Sm G X w nc ns r (.int i :: .ref a :: st) pc := by
  intro H locs ls hw hS hl
  obtain ⟨n, f, he, hi, rfl⟩ := rd_e h
  exact va_iald K.1 K.2.1 K.2.2.2.2.2.2.1.1 (WD_P hw he) 0 0 rfl rfl (vp_inb hi) hd (kk H locs ls hw hS hl)
theorem Sm_rs (K : Ok G X own cc nL rt rm) (hd : decode cc pc = .ok (.iaload, 1)) {j : Nat} {i x : Int32} (h : rs j i = some x) (kk : Sm G X w nc ns r (.int x :: st) (pc + 1)) : Sm G X w nc ns r (.int i :: .ref (aA j) :: st) pc := by
  intro H locs ls hw hS hl
  obtain ⟨q, hq, hi, rfl⟩ := rs_e h
  exact va_ti K.1 K.2.1 (K.2.2.2.2.2.2.1.2.2.1 j q hq).2 hS (vp_inb hi) rfl hd (kk H locs ls hw hS hl)
theorem Sm_wr (K : Ok G X own cc nL rt rm) (hd : decode cc pc = .ok (.iastore, 1)) {a : Nat} {i x : Int32} (h : wr w a i x = some w1) (kk : Sm G X w1 nc ns r st (pc + 1)) : Sm G X w nc ns r (.int x :: .int i :: .ref a :: st) pc := by
  intro H locs ls hw hS hl
  obtain ⟨n, f, he, hi, rfl⟩ := wr_e h
  have hK := K.2.2.2.2.2.2.1.1
  have hA : gA G (ad G a) := by rw [WD_ad hw he]; exact Nat.le_add_right _ _
  refine W.iast K.1 K.2.1 (WD_at hw he) ((hK.2 0 _ rfl).1 n (fun j => .int (f j))) (fun q => by cases q) (by show ¬ (i < 0 ∨ (arrV _ _ _).slots.size ≤ _); rw [arrV_size]; exact vp_inb hi) rfl rfl hd fun H1 e z oq => ?_
  refine kk H1 _ ls (WD_set hw he z oq ?_) (hS.put z oq hA) hl
  show H1[ad G a]? = some (vp_cell _ _)
  rw [e]
  rw [vp_cell_i, vp_cell_i, arrV_store]
  congr 2
  funext q
  by_cases hq : q = i.toNatClampNeg
  · subst hq
    simp [updV, upd]
  · simp [updV, upd, hq]
theorem Sm_ra (K : Ok G X own cc nL rt rm) (hd : decode cc pc = .ok (.aaload, 1)) {a b : Nat} {i : Int32} (h : ra w a i = some b) (kk : Sm G X w nc ns r (.ref b :: st) (pc + 1)) : Sm G X w nc ns r (.int i :: .ref a :: st) pc := by
  intro H locs ls hw hS hl
  obtain ⟨n, f, he, hi, hb⟩ := ra_e h
  refine va_aldq K.1 K.2.1 K.2.2.2.2.2.2.1.1 (WD_P hw he) 0 1 rfl rfl (vp_inb hi) hd ?_
  rw [hb]
  exact kk H locs ls hw hS hl
theorem Sm_al (K : Ok G X own cc nL rt rm) (hd : decode cc pc = .ok (.arraylength, 1)) {a : Nat} {x : Int32} (h : al w a = some x) (kk : Sm G X w nc ns r (.int x :: st) (pc + 1)) : Sm G X w nc ns r (.ref a :: st) pc := by
  intro H locs ls hw hS hl
  obtain ⟨n, f, he, rfl⟩ := al_e h
  exact va_alen K.1 K.2.1 K.2.2.2.2.2.2.1.1 (WD_P hw he) 0 0 rfl rfl rfl hd (kk H locs ls hw hS hl)
theorem Sm_lcmp (K : Ok G X own cc nL rt rm) (hd : decode cc pc = .ok (.lcmp, 1)) {x y : Int64} (kk : Sm G X w nc ns r (.int (lg_cmp x y) :: st) (pc + 1)) : Sm G X w nc ns r (.long y :: .long x :: st) pc := fun H locs ls hw hS hl => W.lcmp K.1 K.2.1 hd (kk H locs ls hw hS hl)
end SMH
