/-! THE CORE: an abstract world (a list of cells, a cell's place is its abstract address), a frame's abstract locals and stack, and the judgement Sm: from every machine state that shows them the goal is reached -/
abbrev A_E : Type := (Nat × (Nat → Int32)) ⊕ ((Nat × (Nat → Option Nat)) ⊕ (Nat × List Value))
abbrev A_W : Type := List A_E
abbrev A_R : Type := List (Option Value)
abbrev Gx : Type := Launch × Nat × va_G × ClassId × ClassId × (Nat → Nat)
def gL (G : Gx) : Launch := G.1
def gB (G : Gx) : Nat := G.2.1
def gD (G : Gx) : va_G := G.2.2.1
def gI (G : Gx) : ClassId := G.2.2.2.1
def gS (G : Gx) : ClassId := G.2.2.2.2.1
def gT (G : Gx) : Nat → Nat := G.2.2.2.2.2
def gA (G : Gx) : Nat → Prop := fun q => gB G ≤ q
def ad (G : Gx) (k : Nat) : Nat := if k < 1000000 then gB G + k else gT G (k - 1000000)
def rl (G : Gx) : Value → Value
  | .ref a => .ref (ad G a)
  | v => v
def cn (G : Gx) : A_E → va_E
  | .inl (n, f) => .inl (gI G, n, .inl f)
  | .inr (.inl (n, g)) => .inl (gS G, n, .inr (.inr (.inr (.inr (fun i => (g i).map (ad G))))))
  | .inr (.inr (c, fs)) => .inr (c, fs.map (rl G))
def gY (G : Gx) : List (ClassId × FieldType) := [(gI G, .int), (gS G, .object (Rn 3))]
def WD (G : Gx) (w : A_W) (H : Heap) : Prop := H.size = gB G + w.length ∧ w.length ≤ 1000000 ∧ ∀ (k : Nat) (e : A_E), w[k]? = some e → va_at (gD G) cls (gB G + k, cn G e) H
theorem ad_lt {G : Gx} {k : Nat} (h : k < 1000000) : ad G k = gB G + k := if_pos h
theorem WD_ad {G : Gx} {w : A_W} {H : Heap} (h : WD G w H) {k : Nat} {e : A_E} (he : w[k]? = some e) : ad G k = gB G + k := ad_lt (Nat.lt_of_lt_of_le (List.getElem?_eq_some_iff.mp he).1 h.2.1)
theorem WD_at {G : Gx} {w : A_W} {H : Heap} (h : WD G w H) {k : Nat} {e : A_E} (he : w[k]? = some e) : va_at (gD G) cls (ad G k, cn G e) H := by
  rw [WD_ad h he]; exact h.2.2 k e he
theorem WD_P {G : Gx} {w : A_W} {H : Heap} (h : WD G w H) {k : Nat} {e : A_E} (he : w[k]? = some e) : va_P (gD G) cls [(ad G k, cn G e)] H := by
  intro j q hq
  match j, hq with
  | 0, hq => cases hq; exact WD_at h he
  | j + 1, hq => simp at hq
/-- one cell changes -/
theorem WD_set {G : Gx} {w : A_W} {H H1 : Heap} (h : WD G w H) {k : Nat} {e e1 : A_E} (he : w[k]? = some e) (z : H1.size = H.size) (o : ∀ q : Nat, q ≠ ad G k → H1[q]? = H[q]?) (h1 : va_at (gD G) cls (ad G k, cn G e1) H1) : WD G (w.set k e1) H1 := by
  refine ⟨by rw [z, h.1, List.length_set], by rw [List.length_set]; exact h.2.1, fun j x hx => ?_⟩
  by_cases hj : j = k
  · subst hj
    rw [List.getElem?_set_self (List.getElem?_eq_some_iff.mp he).1] at hx
    cases hx
    rw [← WD_ad h he]; exact h1
  · rw [List.getElem?_set_ne (Ne.symm hj)] at hx
    refine (h.2.2 j x hx).kept (o _ ?_)
    rw [WD_ad h he]
    show gB G + j ≠ gB G + k
    omega
/-- one cell comes -/
theorem WD_push {G : Gx} {w : A_W} {H H1 : Heap} (h : WD G w H) {e1 : A_E} (hl : w.length < 1000000) (z : H1.size = H.size + 1) (o : ∀ q : Nat, q < H.size → H1[q]? = H[q]?) (h1 : va_at (gD G) cls (H.size, cn G e1) H1) : WD G (w ++ [e1]) H1 := by
  refine ⟨by rw [z, h.1, List.length_append]; rfl, by rw [List.length_append]; exact hl, fun j x hx => ?_⟩
  by_cases hj : j < w.length
  · rw [List.getElem?_append_left hj] at hx
    exact (h.2.2 j x hx).kept (o _ (by show gB G + j < H.size; rw [h.1]; omega))
  · have hlt := (List.getElem?_eq_some_iff.mp hx).1
    rw [List.length_append] at hlt
    have : j = w.length := by simp at hlt; omega
    subst this
    rw [List.getElem?_append_right (Nat.le_refl _), Nat.sub_self] at hx
    cases hx
    rw [← h.1]; exact h1
/-- abstract addresses of the static rows, of the texts, of the texts' bytes -/
def aA (j : Nat) : Nat := 1000000 + j
def sA (j : Nat) : Nat := 1000100 + j
def sV (j : Nat) : Nat := 1000200 + j
def fA : Nat := 1000300
/-- what stays of a state through every call: the classes' numbers, the nest's words, the static rows, the texts -/
def KK (G : Gx) (U : State) : Prop := va_K (gD G) cls (gY G) U ∧ (∀ q ∈ nst, va_Nw (.methodLinkNest q.1 q.2.1 q.2.2.1 q.2.2.2) U) ∧ (∀ (j : Nat) (q : String × String × List Int32), sarr[j]? = some q → va_Z q.1 q.2.1 "[I" (.ref (ad G (aA j))) (gA G) U U.heap ∧ va_T .int (ad G (aA j)) q.2.2.length (fun k => .int (q.2.2.getD k 0)) (gA G) U U.heap) ∧ (∀ (j : Nat) (q : Nat × Nat × String), strs[j]? = some q → vk_R (Rn q.1) q.2.1 q.2.2 (ad G (sA j)) U) ∧ vk_S 15 slen sbyt (fun j => ad G (sA j)) (fun j => ad G (sV j)) (gA G) U U.heap ∧ va_Z "java/lang/String" "COMPACT_STRINGS" "Z" (.int 1) (gA G) U U.heap ∧ va_AO (Rn 3) U ∧ (va_Z "jdk/internal/util/Preconditions" "SIOOBE_FORMATTER" "Ljava/util/function/BiFunction;" .null (gA G) U U.heap ∨ va_Z "jdk/internal/util/Preconditions" "SIOOBE_FORMATTER" "Ljava/util/function/BiFunction;" (.ref (ad G fA)) (gA G) U U.heap)
theorem KK.moved {G : Gx} {s U : State} (h : KK G s) (hW : s.WarmedH U.vm) (hq : ∀ a : Nat, a < s.heap.size → ¬ gA G a → U.heap[a]? = s.heap[a]?) : KK G U := by
  obtain ⟨h1, h2, h3, h4, h5, h6, h7, h8⟩ := h
  exact ⟨va_K.moved hW.alike h1, fun q hm => va_Nw.warmM hW (h2 q hm), fun j q hj => ⟨((h3 j q hj).1.moved hW.alike).kept hq, ((h3 j q hj).2.moved hW.alike).kept hq⟩, fun j q hj => (h4 j q hj).warm hW, (h5.moved hW.alike).kept hq, (h6.moved hW.alike).kept hq, va_AO.moved hW.alike h7, h8.imp (fun z => (z.moved hW.alike).kept hq) (fun z => (z.moved hW.alike).kept hq)⟩
theorem KK.same {G : Gx} {s U : State} (h : KK G s) (hv : s.vm = U.vm) (hh : U.heap = s.heap) : KK G U := by
  obtain ⟨h1, h2, h3, h4, h5, h6, h7, h8⟩ := h
  have ha : s.vm.Alike U.vm := by rw [← hv]; exact Vm.Alike.refl _
  have hq : ∀ a : Nat, a < s.heap.size → ¬ gA G a → U.heap[a]? = s.heap[a]? := fun a _ _ => by rw [hh]
  exact ⟨va_K.moved ha h1, fun q hm => (h2 q hm).same rfl hv, fun j q hj => ⟨((h3 j q hj).1.moved ha).kept hq, ((h3 j q hj).2.moved ha).kept hq⟩, fun j q hj => (h4 j q hj).same hv.symm, (h5.moved ha).kept hq, (h6.moved ha).kept hq, va_AO.moved ha h7, h8.imp (fun z => (z.moved ha).kept hq) (fun z => (z.moved ha).kept hq)⟩
/-- a frame's context: p, e, R, s, m, args, below, meth, c, Q -/
abbrev Cx : Type := Program × Env × Room × State × MethodId × Array Value × List Frame × Method × Code × (State → Prop)
def xP (X : Cx) : Program := X.1
def xE (X : Cx) : Env := X.2.1
def xR (X : Cx) : Room := X.2.2.1
def xS (X : Cx) : State := X.2.2.2.1
def xM (X : Cx) : MethodId := X.2.2.2.2.1
def xG (X : Cx) : Array Value := X.2.2.2.2.2.1
def xB (X : Cx) : List Frame := X.2.2.2.2.2.2.1
def xH (X : Cx) : Method := X.2.2.2.2.2.2.2.1
def xC (X : Cx) : Code := X.2.2.2.2.2.2.2.2.1
def xQ (X : Cx) : State → Prop := X.2.2.2.2.2.2.2.2.2
def lk : A_R → Nat → Option Value
  | [], _ => none
  | a :: _, 0 => a
  | _ :: t, n + 1 => lk t n
def sv : A_R → Nat → Option Value → A_R
  | [], _, _ => []
  | _ :: t, 0, v => v :: t
  | a :: t, n + 1, v => a :: sv t n v
theorem lk_sv (r : A_R) (i : Nat) (v : Option Value) (j : Nat) : lk (sv r i v) j = if j = i ∧ i < r.length then v else lk r j := by
  induction r generalizing i j with
  | nil => simp [sv, lk]
  | cons a t ih =>
    cases i with
    | zero => cases j <;> simp [sv, lk]
    | succ i => cases j with
      | zero => simp [sv, lk]
      | succ j => simp [sv, lk, ih]
theorem sv_len (r : A_R) (i : Nat) (v : Option Value) : (sv r i v).length = r.length := by
  induction r generalizing i with
  | nil => rfl
  | cons a t ih => cases i <;> simp [sv, ih]
theorem lk_lt {r : A_R} {i : Nat} {v : Value} (h : lk r i = some v) : i < r.length := by
  induction r generalizing i with
  | nil => simp [lk] at h
  | cons a t ih => cases i with
    | zero => simp
    | succ i => simpa using ih h
def LH (G : Gx) (ls : Array Slot) (r : A_R) : Prop := ls.size = r.length ∧ lv_wf ls ∧ ∀ (i : Nat) (v : Value), lk r i = some v → ls[i]? = some (.val (rl G v))
/-- the listed pairs of the locals -/
def prs (G : Gx) (r : A_R) : List (Nat × Value) := (List.range r.length).filterMap (fun i => (lk r i).map (fun v => (i, rl G v)))
theorem prs_mem {G : Gx} {r : A_R} {i : Nat} {x : Value} : (i, x) ∈ prs G r ↔ ∃ v, lk r i = some v ∧ x = rl G v := by
  unfold prs
  rw [List.mem_filterMap]
  constructor
  · rintro ⟨j, -, h⟩
    cases hl : lk r j with
    | none => rw [hl] at h; cases h
    | some v => rw [hl] at h; cases h; exact ⟨v, hl, rfl⟩
  · rintro ⟨v, h, rfl⟩
    exact ⟨i, List.mem_range.mpr (lk_lt h), by rw [h]; rfl⟩
theorem LH.has {G : Gx} {ls : Array Slot} {r : A_R} (h : LH G ls r) : lv_has ls r.length (prs G r) := ⟨h.1, h.2.1, fun q hq => by
  obtain ⟨v, h1, h2⟩ := prs_mem.mp (show (q.1, q.2) ∈ prs G r from hq)
  rw [h2]; exact h.2.2 _ _ h1⟩
theorem LH.of {G : Gx} {ls : Array Slot} {r : A_R} {l : List (Nat × Value)} (h : lv_has ls r.length l) (hr : ∀ (i : Nat) (v : Value), lk r i = some v → (i, rl G v) ∈ l) : LH G ls r := ⟨h.1, h.2.1, fun i v hv => h.2.2 _ (hr i v hv)⟩
/-- the judgement -/
def Sm (G : Gx) (X : Cx) (w : A_W) (nc ns : Nat) (r : A_R) (st : List Value) (pc : Nat) : Prop :=
  ∀ (H : Heap) (locs : List Loc) (ls : Array Slot), WD G w H → va_S (gA G) (xS X).heap H locs → LH G ls r → W (xP X) (gL G) (xE X) (xR X) (xS X) (xM X) (xG X) (xB X) (xH X) (xC X) H locs nc ns (xQ X) (F0 (xM X) pc ls (st.map (rl G)))
def Ok (G : Gx) (X : Cx) (own : Nat) (cc : ByteArray) (nL : Nat) (rt : Option FieldType) (rm : Room) : Prop :=
  (xP X).tables.exec = Jvm.exec ∧ (xC X).code = cc ∧ (xH X).sig.returnType = rt ∧ (xC X).maxLocals = nL ∧ (xS X).vm.findClass (Rn own) = some (xM X).cls ∧ (∀ w ∈ lg, w.before (xG X) (xS X) = true) ∧ KK G (xS X) ∧ (xH X).locks = false ∧ xR X = rm ∧ gB G ≤ (xS X).heap.size
