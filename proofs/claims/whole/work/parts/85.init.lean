/-! THE START -/
def g0 : Nat → Int32 := fun i => if i = 2 then 1 else if 77 ≤ i ∧ i < 87 then -1 else 0
def rmA (t : Nat) : A_W := [.inr (.inr (2, [.int 0, .int 0, .int 1, .int 0, .int 0, .ref (t + 1), .ref (t + 2), .ref (t + 3), .ref (t + 4), .ref (t + 5), .ref (t + 6), .ref (t + 7), .ref (t + 8), .ref (t + 9), .ref (t + 10), .ref (t + 11)])), .inl (6, fun _ => 0), .inl (8, fun _ => 0), .inl (8, fun _ => 0), .inl (8, fun _ => 0), .inl (8, fun _ => 0), .inl (8, fun _ => 0), .inl (8, fun _ => 0), .inl (6, fun _ => 0), .inl (6, fun _ => 0), .inl (6, fun _ => 0), .inl (10, fun j => if j < 10 then -1 else 0)]
def blR : A_E := .inr (.inr (2, [.int 0, .int 0, .int 0, .int 0, .int 0, .null, .null, .null, .null, .null, .null, .null, .null, .null, .null, .null]))
section INI
variable {w l : A_W}
theorem pf_a {ci k t : Nat} {v : Value} {fs : List Value} (ht : t = w.length) (h : k < fs.length) : pf (w ++ (.inr (.inr (ci, fs))) :: l) t ci k v = some (w ++ (.inr (.inr (ci, fs.set k v))) :: l) := by
  subst ht
  unfold pf
  rw [List.getElem?_append_right (Nat.le_refl _), Nat.sub_self]
  show (if ci = ci ∧ k < fs.length then some ((w ++ (.inr (.inr (ci, fs))) :: l).set w.length (.inr (.inr (ci, fs.set k v)))) else none) = _
  rw [if_pos ⟨rfl, h⟩, List.set_append_right _ _ (Nat.le_refl _), Nat.sub_self]
  rfl
theorem nO_a {e : A_E} (h : (w ++ l).length < 1000000) : nO (w ++ l) e = some (w ++ (l ++ [e])) := by
  unfold nO
  rw [if_pos h, List.append_assoc]
end INI
theorem R_init {w : A_W} (hw : w.length < 900000) : F_R_init w.length (w ++ [blR]) = some (w ++ rmA w.length) := by
  have L : ∀ l : A_W, l.length < 100 → (w ++ l).length < 1000000 := fun l h => by rw [List.length_append]; omega
  unfold F_R_init blR
  rw [pf_a rfl (Nat.le_of_ble_eq_true rfl), Option.bind_some]
  rw [nO_a (L _ (Nat.le_of_ble_eq_true rfl)), Option.bind_some]
  simp only [List.cons_append, List.nil_append, List.set_cons_succ, List.set_cons_zero]
  rw [pf_a rfl (Nat.le_of_ble_eq_true rfl), Option.bind_some]
  rw [nO_a (L _ (Nat.le_of_ble_eq_true rfl)), Option.bind_some]
  simp only [List.cons_append, List.nil_append, List.set_cons_succ, List.set_cons_zero]
  rw [pf_a rfl (Nat.le_of_ble_eq_true rfl), Option.bind_some]
  rw [nO_a (L _ (Nat.le_of_ble_eq_true rfl)), Option.bind_some]
  simp only [List.cons_append, List.nil_append, List.set_cons_succ, List.set_cons_zero]
  rw [pf_a rfl (Nat.le_of_ble_eq_true rfl), Option.bind_some]
  rw [nO_a (L _ (Nat.le_of_ble_eq_true rfl)), Option.bind_some]
  simp only [List.cons_append, List.nil_append, List.set_cons_succ, List.set_cons_zero]
  rw [pf_a rfl (Nat.le_of_ble_eq_true rfl), Option.bind_some]
  rw [nO_a (L _ (Nat.le_of_ble_eq_true rfl)), Option.bind_some]
  simp only [List.cons_append, List.nil_append, List.set_cons_succ, List.set_cons_zero]
  rw [pf_a rfl (Nat.le_of_ble_eq_true rfl), Option.bind_some]
  rw [nO_a (L _ (Nat.le_of_ble_eq_true rfl)), Option.bind_some]
  simp only [List.cons_append, List.nil_append, List.set_cons_succ, List.set_cons_zero]
  rw [pf_a rfl (Nat.le_of_ble_eq_true rfl), Option.bind_some]
  rw [nO_a (L _ (Nat.le_of_ble_eq_true rfl)), Option.bind_some]
  simp only [List.cons_append, List.nil_append, List.set_cons_succ, List.set_cons_zero]
  rw [pf_a rfl (Nat.le_of_ble_eq_true rfl), Option.bind_some]
  rw [nO_a (L _ (Nat.le_of_ble_eq_true rfl)), Option.bind_some]
  simp only [List.cons_append, List.nil_append, List.set_cons_succ, List.set_cons_zero]
  rw [pf_a rfl (Nat.le_of_ble_eq_true rfl), Option.bind_some]
  rw [nO_a (L _ (Nat.le_of_ble_eq_true rfl)), Option.bind_some]
  simp only [List.cons_append, List.nil_append, List.set_cons_succ, List.set_cons_zero]
  rw [pf_a rfl (Nat.le_of_ble_eq_true rfl), Option.bind_some]
  rw [nO_a (L _ (Nat.le_of_ble_eq_true rfl)), Option.bind_some]
  simp only [List.cons_append, List.nil_append, List.set_cons_succ, List.set_cons_zero]
  rw [pf_a rfl (Nat.le_of_ble_eq_true rfl), Option.bind_some]
  rw [nO_a (L _ (Nat.le_of_ble_eq_true rfl)), Option.bind_some]
  simp only [List.cons_append, List.nil_append, List.set_cons_succ, List.set_cons_zero]
  rw [pf_a rfl (Nat.le_of_ble_eq_true rfl), Option.bind_some]
  simp only [List.set_cons_succ, List.set_cons_zero, List.length_append, List.length_cons, List.length_nil, Nat.zero_add, Nat.reduceAdd]
  have hg : ∀ (fs : List Value) (l : A_W) (v : Nat), fs[15]? = some (.ref v) → gr (w ++ (.inr (.inr (2, fs))) :: l) w.length 2 15 = some v := by
    intro fs l v hv
    have e : gf (w ++ (.inr (.inr (2, fs))) :: l) w.length 2 15 = some (.ref v) := by
      unfold gf
      rw [List.getElem?_append_right (Nat.le_refl _), Nat.sub_self]
      show (if 2 = 2 then fs[15]? else none) = _
      rw [if_pos rfl, hv]
    unfold gr
    rw [e]
  rw [hg _ _ (w.length + 11) rfl, Option.bind_some]
  rw [JA_fill (n := 10) (f := fun _ => 0) (by omega) (by rw [List.getElem?_append_right (by omega), Nat.add_sub_cancel_left]; rfl), Option.bind_some, List.set_append_right _ _ (by omega), Nat.add_sub_cancel_left]
  rfl
