def frM : Nat → Int32 := upd (upd (upd (upd (upd (upd (upd (upd (upd (upd (upd (fun _ => 0) 2 1) 77 (-1)) 78 (-1)) 79 (-1)) 80 (-1)) 81 (-1)) 82 (-1)) 83 (-1)) 84 (-1)) 85 (-1)) 86 (-1)
def tlM : A_W := [mobj (fun _ => 0), .inl (87, frM), .inl (87, fun _ => 0), .inl (87, fun _ => 0), .inl (7, fun _ => 0), .inl (4, fun _ => 0), .inl (4, fun _ => 0), .inl (160, fun _ => 0), .inl (120, fun _ => 0)]
def w2M : A_W := wK ++ tlM
set_option maxRecDepth 100000 in
set_option maxHeartbeats 4000000 in
theorem M_init : F_M_init 49 (wK ++ [blM]) = some w2M := by
  have L : ∀ l : A_W, l.length < 100 → (wK ++ l).length < 1000000 := fun l h => by rw [List.length_append, wK_len]; omega
  have P : ∀ (l : A_W) (k : Nat) (v : Value) (fs : List Value), k < fs.length → pf (wK ++ (.inr (.inr (4, fs))) :: l) 49 4 k v = some (wK ++ (.inr (.inr (4, fs.set k v))) :: l) := fun l k v fs h => pf_a wK_len.symm h
  unfold F_M_init blM
  rw [nO_a (L _ (Nat.le_of_ble_eq_true rfl)), Option.bind_some]
  simp only [List.cons_append, List.nil_append]
  rfl
theorem frM_0 : ∀ k, k < 11 → 1 ≤ k → ∀ i, i < rlen k → frM (rix k i) = 0 := by decide +kernel
theorem frM_11 : ∀ i, i < 10 → frM (77 + i) = -1 := by decide +kernel
theorem cf_z {k : Nat} (hk : k < 11) (h1 : 1 ≤ k) : cf k frM = fun _ => 0 := by
  funext i
  unfold cf
  split
  · rename_i hi; exact frM_0 k hk h1 i hi
  · rfl
theorem cf_s : cf 11 frM = fun j => if j < 10 then -1 else 0 := by
  funext i
  show (if i < 10 then frM (77 + i) else 0) = _
  by_cases hi : i < 10
  · rw [if_pos hi, frM_11 i hi, if_pos hi]
  · rw [if_neg hi, if_neg hi]
theorem frM_Wf : Wf frM := ⟨by decide +kernel, by decide +kernel, by decide +kernel⟩
theorem RC_rmA {w : A_W} {t : Nat} (h : ∀ j, j < 12 → w[t + j]? = (rmA t)[j]?) : RC w t frM := by
  refine ⟨(h 0 (by omega)).trans rfl, fun k h1 h2 => ?_⟩
  rw [h k (by omega)]
  by_cases e : k = 11
  · subst e; rw [cf_s]; rfl
  · rw [cf_z (by omega) h1]
    rcases (show k = 1 ∨ k = 2 ∨ k = 3 ∨ k = 4 ∨ k = 5 ∨ k = 6 ∨ k = 7 ∨ k = 8 ∨ k = 9 ∨ k = 10 by omega) with rfl | rfl | rfl | rfl | rfl | rfl | rfl | rfl | rfl | rfl <;> rfl
theorem nf_z (i : Nat) : nf (fun _ => 0) i = fun _ => 0 := by
  funext k
  unfold nf
  split <;> rfl
def h2M : Nat → Nat → Int32 := fun a => if a = 0 then frM else fun _ => 0
theorem j12 {p : Nat → Prop} (h0 : p 0) (h1 : p 1) (h2 : p 2) (h3 : p 3) (h4 : p 4) (h5 : p 5) (h6 : p 6) (h7 : p 7) (h8 : p 8) (h9 : p 9) (h10 : p 10) (h11 : p 11) : ∀ j, j < 12 → p j := by
  intro j hj
  rcases (show j = 0 ∨ j = 1 ∨ j = 2 ∨ j = 3 ∨ j = 4 ∨ j = 5 ∨ j = 6 ∨ j = 7 ∨ j = 8 ∨ j = 9 ∨ j = 10 ∨ j = 11 by omega) with rfl | rfl | rfl | rfl | rfl | rfl | rfl | rfl | rfl | rfl | rfl | rfl <;> assumption
theorem Rel_start : Rel w2M := by
  refine ⟨h2M, fun _ => 0, frM, frM, fun _ => 0, ⟨⟨rfl, ?_⟩, ⟨rfl, rfl, rfl, ⟨shF, rfl, ?_⟩, rfl, ?_⟩, RC_rmA (t := 1) (j12 rfl rfl rfl rfl rfl rfl rfl rfl rfl rfl rfl rfl), RC_rmA (t := 13) (j12 rfl rfl rfl rfl rfl rfl rfl rfl rfl rfl rfl rfl), RC_rmA (t := 25) (j12 rfl rfl rfl rfl rfl rfl rfl rfl rfl rfl rfl rfl)⟩, frM_Wf, Or.inl rfl, fun z => absurd z (by decide : ¬ (0 : Int32) = 1), ?_, ⟨0, by omega, rfl⟩, rfl, ?_⟩
  · intro a ha
    rcases (show a = 0 ∨ a = 1 ∨ a = 2 ∨ a = 3 ∨ a = 4 ∨ a = 5 ∨ a = 6 ∨ a = 7 by omega) with rfl | rfl | rfl | rfl | rfl | rfl | rfl | rfl <;> rfl
  · intro i hi
    rcases (show i = 0 ∨ i = 1 ∨ i = 2 ∨ i = 3 by omega) with rfl | rfl | rfl | rfl <;> rfl
  · intro i hi
    have e : nf (h2M 6) i = fun _ => 0 := nf_z i
    rw [e]
    rcases (show i = 0 ∨ i = 1 ∨ i = 2 ∨ i = 3 by omega) with rfl | rfl | rfl | rfl <;> exact ⟨rfl, rfl⟩
  · intro i hi
    exact ⟨Or.inl rfl, ⟨0, by omega, rfl⟩, fun _ => rfl⟩
  · intro i hi
    exact (by decide : 0 ≤ (0 : Int32).toInt ∧ (0 : Int32).toInt ≤ 255)
theorem steps43 : Steps43 Rel := ⟨st0, st1, st2, st3, st4, st5, st6, st7, st8, st9, st10, st11, st12, st13, st14, st15, st16, st17, st18, st19, st20, st21, st22, st23, st24, st25, st26, st27, st28, st29, st30, st31, st32, st33, st34, st35, st36, st37, st38, st39, st40, st41, st42⟩
