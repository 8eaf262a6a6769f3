/-! THE RULES that make cells, copy rows, and call what has no code -/
def dv : FieldType → Value := defaultValue
section SMM
variable {G : Gx} {X : Cx} {own nL : Nat} {cc : ByteArray} {rt : Option FieldType} {R rm : Room} {w w1 : A_W} {nc ns : Nat} {r : A_R} {st st0 : List Value} {pc idx : Nat}
theorem Sm_objInit (K : Ok G X own cc nL rt R) (hd : decode cc pc = .ok (.invokespecial idx, 3)) (hl : Cond.methodLink (Rn own) idx Lib.objectInit ∈ lg) (hi : Cond.instanceMethod Lib.objectInit ∈ lg) (hc : Cond.code Lib.objectInit ⟨#[0xb1]⟩ 1 none ∈ lg) (hlen : r.length = nL) {a : Nat} (hf : 1 ≤ R.frames) (hlo : ((st.map (rl G)).map fun v => v.category).sum + 12 ≤ R.locals) (kk : Sm G X w nc ns r st (pc + 3)) : Sm G X w nc ns r (.ref a :: st) pc := by
  intro H locs ls hw hS hl1
  have ht := K.2.2.2.2.2.1
  refine W.objInit K.1 K.2.1 K.2.2.2.2.1 (ht _ hl) (ht _ hi) (ht _ hc) rfl (by rw [K.2.2.2.1]; exact hl1.1.trans hlen) rfl hd (by rw [K.2.2.2.2.2.2.2.2.1]; exact hf) ?_ (kk H locs ls hw hS hl1)
  rw [K.2.2.2.2.2.2.2.2.1]
  show 2 * 0 + _ + 12 ≤ _
  omega
theorem Sm_na (K : Ok G X own cc nL rt R) (hd : decode cc pc = .ok (.newarray .int, 2)) (harr : Cond.arrayClass .int ∈ lg) {n : Int32} {N : Nat} (hn : ¬ n < 0) (hN : n.toNatClampNeg = N) (hb : N ≤ 100000000) (hwl : w.length < 1000000) (hc : nc + 1 ≤ R.cells) (hs : ns + N ≤ R.slots) (kk : Sm G X (w ++ [.inl (N, fun _ => 0)]) (nc + 1) (ns + N) r (.ref w.length :: st) (pc + 2)) : Sm G X w nc ns r (.int n :: st) pc := by
  intro H locs ls hw hS hl1
  have ht := K.2.2.2.2.2.1
  have hK := K.2.2.2.2.2.2.1.1
  refine va_newaK (atype := .int) K.1 K.2.1 (ht _ harr) rfl hd rfl hn hN (by show N * 4 ≤ 536870912; omega) (by rw [K.2.2.2.2.2.2.2.2.1]; exact hc) (by rw [K.2.2.2.2.2.2.2.2.1]; exact hs) rfl fun H1 cA e1 z1 o1 hAr hNm => ?_
  have hcA : cA = gI G := Option.some.inj (hNm.symm.trans (hK.2 0 _ rfl).2)
  subst hcA
  have h := kk H1 locs ls (WD_push hw hwl z1 o1 (by exact e1)) ⟨Nat.le_trans hS.1 (by omega), fun q h1 h2 => (o1 q (Nat.lt_of_lt_of_le h1 hS.1)).trans (hS.2.1 q h1 h2), hS.2.2⟩ hl1
  have e : rl G (.ref w.length) = .ref H.size := by
    show Value.ref (ad G w.length) = _
    rw [ad_lt hwl, ← hw.1]
  rw [List.map_cons, e] at h
  exact h
theorem Sm_nq (K : Ok G X own cc nL rt R) (hd : decode cc pc = .ok (.anewarray idx, 3)) (hcl : Cond.classLink (Rn own) idx (Rn 3) ∈ lg) {n : Int32} {N : Nat} (hn : ¬ n < 0) (hN : n.toNatClampNeg = N) (hb : N ≤ 100000000) (hwl : w.length < 1000000) (hc : nc + 1 ≤ R.cells) (hs : ns + N ≤ R.slots) (kk : Sm G X (w ++ [.inr (.inl (N, fun _ => none))]) (nc + 1) (ns + N) r (.ref w.length :: st) (pc + 3)) : Sm G X w nc ns r (.int n :: st) pc := by
  intro H locs ls hw hS hl1
  subst hN
  have ht := K.2.2.2.2.2.1
  have hK := K.2.2.2.2.2.2.1.1
  refine W.anew K.1 K.2.1 K.2.2.2.2.1 (ht _ hcl) (va_AO.use K.2.2.2.2.2.2.1.2.2.2.2.2.2.1) rfl hd rfl hn (by omega) (by rw [K.2.2.2.2.2.2.2.2.1]; exact hc) (by rw [K.2.2.2.2.2.2.2.2.1]; exact hs) fun cA kA comp f1 f2 f3 f4 => ?_
  obtain ⟨kA2, comp2, g1, g2, g3, g4⟩ := (hK.2 1 _ rfl).2
  have hcA : cA = gS G := Option.some.inj (f1.symm.trans g4)
  subst hcA
  generalize hH1 : H.push ({ cls := gS G, slots := Array.replicate n.toNatClampNeg .null, vm := .none } : Cell) = H1
  have z1 : H1.size = H.size + 1 := by rw [← hH1, Array.size_push]
  have e1 : H1[H.size]? = some (arrV (gS G) n.toNatClampNeg (fun _ => .null)) := by rw [← hH1, Array.getElem?_push_size, ← arrV_new]
  have o1 : ∀ q : Nat, q < H.size → H1[q]? = H[q]? := fun q hq => by rw [← hH1, Array.getElem?_push, if_neg (Nat.ne_of_lt hq)]
  have h := kk H1 locs ls (WD_push hw hwl z1 o1 (by exact e1)) ⟨Nat.le_trans hS.1 (by omega), fun q h1 h2 => (o1 q (Nat.lt_of_lt_of_le h1 hS.1)).trans (hS.2.1 q h1 h2), hS.2.2⟩ hl1
  have e : rl G (.ref w.length) = .ref H.size := by
    show Value.ref (ad G w.length) = _
    rw [ad_lt hwl, ← hw.1]
  rw [List.map_cons, e] at h
  exact h
theorem Sm_new (K : Ok G X own cc nL rt R) (hd : decode cc pc = .ok (.new idx, 3)) {ci : Nat} (hci : ci < 5) (hcl : Cond.classLink (Rn own) idx (Rn ci) ∈ lg) (hins : Cond.instantiable (Rn ci) (Nn ci) ∈ lg) (hini : Cond.initialized (Rn ci) ∈ lg) {fs : List Value} (hfs : ∀ j, j < Nn ci → defaultValue (tyn ci j) = vp_V (fs.map (rl G)) j) (hwl : w.length < 1000000) (hc : nc + 1 ≤ R.cells) (hs : ns + Nn ci ≤ R.slots) (kk : Sm G X (w ++ [.inr (.inr (ci, fs))]) (nc + 1) (ns + Nn ci) r (.ref w.length :: st) (pc + 3)) : Sm G X w nc ns r st pc := by
  intro H locs ls hw hS hl1
  have ht := K.2.2.2.2.2.1
  have hK := K.2.2.2.2.2.2.1.1
  have hc0 := cls_at hci
  have hKn := hK.1 ci _ hc0
  refine W.newcK K.1 K.2.1 K.2.2.2.2.1 (ht _ hcl) (ht _ hins) (ht _ hini) rfl hd (by rw [K.2.2.2.2.2.2.2.2.1]; exact hc) (by rw [K.2.2.2.2.2.2.2.2.1]; exact hs) hKn.2.1 rfl fun H1 kC hkC e1 z1 o1 => ?_
  have h := kk H1 locs ls (WD_push hw hwl z1 o1 ⟨_, hc0, (u_born (tyn ci) ht (inn hci) hKn hkC e1 (tokn hci)).to hfs⟩) ⟨Nat.le_trans hS.1 (by omega), fun q h1 h2 => (o1 q (Nat.lt_of_lt_of_le h1 hS.1)).trans (hS.2.1 q h1 h2), hS.2.2⟩ hl1
  have e : rl G (.ref w.length) = .ref H.size := by
    show Value.ref (ad G w.length) = _
    rw [ad_lt hwl, ← hw.1]
  rw [List.map_cons, e] at h
  exact h
theorem Sm_wa (K : Ok G X own cc nL rt R) (hd : decode cc pc = .ok (.aastore, 1)) {a b : Nat} {i : Int32} (h : wa w a i b = some w1) (kk : Sm G X w1 nc ns r st (pc + 1)) : Sm G X w nc ns r (.ref b :: .int i :: .ref a :: st) pc := by
  intro H locs ls hw hS hl
  obtain ⟨n, f, fs, he, hb, hi, rfl⟩ := wa_e h
  have hK := K.2.2.2.2.2.2.1.1
  have hA : gA G (ad G a) := by rw [WD_ad hw he]; exact Nat.le_add_right _ _
  obtain ⟨r', hr', cellV, g1, g2, g3, -⟩ := WD_at hw hb
  have hcls := (hK.1 3 _ rfl).2
  obtain ⟨kA, comp, k1, k2, k3, -⟩ := (hK.2 1 _ rfl).2
  have hcomp : comp = (gD G).1 3 := Option.some.inj (k3.symm.trans hcls.1)
  subst hcomp
  obtain ⟨kC, hkC, hkk⟩ := hcls.2
  refine W.aast K.1 K.2.1 (WD_at hw he) (fun q h => by cases h) (fun h => by cases h) k1 k2 rfl hkC ⟨hi.1, by show _ < (arrV _ _ _).slots.size; rw [arrV_size]; exact hi.2⟩ g1 (fun q h => by rw [g3] at h; cases h) (by rw [g2]; exact hkC) (by rw [g2]; exact va_assign hcls) rfl rfl hd fun H1 e z oq => ?_
  refine kk H1 _ ls (WD_set hw he z oq ?_) (hS.put z oq hA) hl
  show H1[ad G a]? = some (vp_cell _ _)
  rw [e]
  rw [vp_cell_q, vp_cell_q, arrV_store]
  congr 2
  funext q
  by_cases hq : q = i.toNatClampNeg
  · subst hq
    simp [updV, va_up, va_rf]
  · simp [updV, va_up, hq]
/-- System.arraycopy between rows of ints -/
def cp (w : A_W) (a : Nat) (sp : Int32) (b : Nat) (dp n : Int32) : Option A_W := match w[a]? with
  | some (.inl (n0, f)) => (match w[b]? with
    | some (.inl (n1, g)) => if (¬ sp < 0 ∧ ¬ dp < 0 ∧ ¬ n < 0) ∧ sp.toNatClampNeg + n.toNatClampNeg ≤ n0 ∧ dp.toNatClampNeg + n.toNatClampNeg ≤ n1 then some (w.set b (.inl (n1, va_cpy f g sp.toNatClampNeg dp.toNatClampNeg n.toNatClampNeg))) else none
    | _ => none)
  | _ => none
theorem cp_e {a b : Nat} {sp dp n : Int32} (h : cp w a sp b dp n = some w1) : ∃ n0 f n1 g, w[a]? = some (.inl (n0, f)) ∧ w[b]? = some (.inl (n1, g)) ∧ ((¬ sp < 0 ∧ ¬ dp < 0 ∧ ¬ n < 0) ∧ sp.toNatClampNeg + n.toNatClampNeg ≤ n0 ∧ dp.toNatClampNeg + n.toNatClampNeg ≤ n1) ∧ w1 = w.set b (.inl (n1, va_cpy f g sp.toNatClampNeg dp.toNatClampNeg n.toNatClampNeg)) := by
  unfold cp at h
  split at h
  · rename_i n0 f h0
    split at h
    · rename_i n1 g h1
      split at h
      · rename_i e; cases h; exact ⟨n0, f, n1, g, h0, h1, e, rfl⟩
      · cases h
    · cases h
  · cases h
theorem Sm_cp (K : Ok G X own cc nL rt R) (hd : decode cc pc = .ok (.invokestatic idx, 3)) (hl : Cond.methodLink (Rn own) idx arraycopyName ∈ lg) (hnat : Cond.native arraycopyName ∈ lg) (hst : Cond.static arraycopyName ∈ lg) (hini : Cond.initialized "java/lang/System" ∈ lg) (hlen : r.length = nL) {a b : Nat} {sp dp n : Int32} (h : cp w a sp b dp n = some w1) (hf : 1 ≤ R.frames) (hlo : ((st.map (rl G)).map fun v => v.category).sum + (nativeFrameWords "java/lang/System" "arraycopy" 5 + 11) ≤ R.locals) (kk : Sm G X w1 nc ns r st (pc + 3)) : Sm G X w nc ns r (.int n :: .int dp :: .ref b :: .int sp :: .ref a :: st) pc := by
  intro H locs ls hw hS hl1
  obtain ⟨n0, f, n1, g, h0, hb, ⟨⟨h1, h2, h3⟩, h4, h5⟩, rfl⟩ := cp_e h
  have ht := K.2.2.2.2.2.1
  have hK := K.2.2.2.2.2.2.1.1
  have hA : gA G (ad G b) := by rw [WD_ad hw hb]; exact Nat.le_add_right _ _
  have nn : ∀ z : Int32, ¬ z < 0 → z.toInt = (z.toNatClampNeg : Int) := by
    intro z hz
    have hz0 : (0 : Int) ≤ z.toInt := by
      have := Int32.not_lt.mp hz
      simpa using Int32.le_iff_toInt_le.mp this
    show z.toInt = ((z.toInt.toNat : Nat) : Int)
    omega
  intro T hT Z
  have hc0 : H[ad G a]? = some (vp_cell (gI G) (n0, .inl f)) := WD_at hw h0
  have hc1 : H[ad G b]? = some (vp_cell (gI G) (n1, .inl g)) := WD_at hw hb
  obtain ⟨-, k0, hk0, cm0, hkk0⟩ := (hK.2 0 _ rfl).1 n0 (fun j => .int (f j))
  obtain ⟨-, k1, hk1, cm1, hkk1⟩ := (hK.2 0 _ rfl).1 n1 (fun j => .int (g j))
  obtain ⟨vm', Z1, step⟩ := Z.arraycopy K.1 K.2.2.2.2.1 (ht _ hl) (ht _ hnat) (ht _ hst) (ht _ hini) (src := ad G a) (dst := ad G b) (cs := vp_cell (gI G) (n0, .inl f)) (cd := vp_cell (gI G) (n1, .inl g)) (srcPos := sp) (destPos := dp) (n := n) (by rw [hT]; exact hc0) (by rw [hT]; exact hc1)
    (fun _ h => by cases h) (fun _ h => by cases h) (fun h => by cases h) (fun h => by cases h) hk0 hk1 hkk0 hkk1 (by simp [refKind]) h1 h2 h3
    (by rw [nn sp h1, nn n h3]; show ¬ _ > ((arrV (gI G) n0 (fun j => .int (f j))).slots.size : Int); rw [arrV_size]; omega)
    (by rw [nn dp h2, nn n h3]; show ¬ _ > ((arrV (gI G) n1 (fun j => .int (g j))).slots.size : Int); rw [arrV_size]; omega)
    (fun vm₁ _ i hi => by
      have e : (vp_cell (gI G) (n0, .inl f)).slots.getD (sp.toNatClampNeg + i) .null = .int (f (sp.toNatClampNeg + i)) := by
        show (arrV (gI G) n0 (fun j => .int (f j))).slots.getD _ _ = _
        rw [Array.getD_eq_getD_getElem?, arrV_read _ _ (by omega)]
        rfl
      refine ⟨?_, ?_⟩
      · rw [e]; rfl
      · rw [e]
        exact trivial)
    (g := F0 (xM X) pc ls ((Value.int n :: .int dp :: .ref b :: .int sp :: .ref a :: st).map (rl G))) rfl (by rw [K.2.2.2.1]; exact hl1.1.trans hlen) (rest := st.map (rl G)) rfl (by rw [K.2.1]; exact hd) (by rw [K.2.2.2.2.2.2.2.2.1]; exact hf) (by rw [K.2.2.2.2.2.2.2.2.1]; show 2 * 0 + _ + _ ≤ _; omega)
  have e1 : copied (vp_cell (gI G) (n0, .inl f)) (vp_cell (gI G) (n1, .inl g)) sp dp n = vp_cell (gI G) (n1, .inl (va_cpy f g sp.toNatClampNeg dp.toNatClampNeg n.toNatClampNeg)) := va_copied (fun z => .int z) (gI G) (gI G) f g h4
  rw [e1] at Z1 step
  have hlt : ad G b < H.size := (Array.getElem?_eq_some_iff.mp hc1).1
  have hheap : ((T.setVm vm').setCell (ad G b) (vp_cell (gI G) (n1, .inl (va_cpy f g sp.toNatClampNeg dp.toNatClampNeg n.toNatClampNeg)))).heap = H.setIfInBounds (ad G b) (vp_cell (gI G) (n1, .inl (va_cpy f g sp.toNatClampNeg dp.toNatClampNeg n.toNatClampNeg))) := by rw [← hT]; rfl
  have oq : ∀ q : Nat, q ≠ ad G b → (H.setIfInBounds (ad G b) (vp_cell (gI G) (n1, .inl (va_cpy f g sp.toNatClampNeg dp.toNatClampNeg n.toNatClampNeg))))[q]? = H[q]? := fun q hq => by simp [Array.getElem?_setIfInBounds, Ne.symm hq]
  obtain ⟨t, a1, b1⟩ := kk _ _ ls (WD_set hw hb (by simp) oq (show (H.setIfInBounds (ad G b) _)[ad G b]? = some _ by simp [Array.getElem?_setIfInBounds, hlt])) ⟨by simp; exact hS.1, fun q g1 g2 => by
      rw [oq q (fun e => g2 (by rw [e]; exact hA))]
      exact hS.2.1 q g1 g2, fun q hq => by
      rcases List.mem_append.mp hq with h | h
      · exact hS.2.2 q h
      · obtain ⟨z, -, hz⟩ := List.mem_map.mp h
        rw [← hz]
        exact hA⟩ hl1 _ hheap Z1
  exact ⟨t, step t a1, b1⟩
end SMM
