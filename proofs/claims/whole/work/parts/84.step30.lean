/-! TEXT: both read it alike -/
theorem dW_id {w : A_W} {q : Nat → Int32} (h : w[37]? = some (dobj q)) : dW w q = w := by
  unfold dW
  refine List.ext_getElem? fun k => ?_
  by_cases e : k = 37
  · subst e; rw [List.getElem?_set_self (List.getElem?_eq_some_iff.mp h).1]; exact h.symm
  · rw [List.getElem?_set_ne (Ne.symm e)]
theorem rW_mW (w : A_W) (c g : Nat → Int32) {t b : Nat} (ht : t + 11 < 49) : rW (mW w b c) t g = mW (rW w t g) b c := by
  refine List.ext_getElem? fun k => ?_
  by_cases e : k = 50 + b
  · subst e
    rw [rW_at (by omega)]
    unfold mW
    rw [List.getElem?_set, List.getElem?_set, if_pos rfl, if_pos rfl, rW_len]
  · unfold mW
    rw [List.getElem?_set_ne (Ne.symm e), rW_g, List.getElem?_set_ne (Ne.symm e), rW_g]
theorem M_text_65_t {w : A_W} {h : Nat → Nat → Int32} {s0 : Nat → Int32} (M : MM w h s0) (g s : Nat → Int32) (x : Int32) : F_M_text_65 49 x 49 0 (MX w g s) = some (x, MX w g (upd (upd s 14 0) 9 0)) := by
  unfold F_M_text_65
  rw [bz0, Option.bind_some, (MX_M M g s).pf_ (k := 14) (by omega), Option.bind_some, MX_P, (MX_M M g _).pf_ (k := 9) (by omega), Option.bind_some, MX_P, (MX_M M g _).gi14, Option.bind_some, upd_n (by omega), upd_s, if_pos rfl]
theorem M_text_65_f {w : A_W} {h : Nat → Nat → Int32} {s0 : Nat → Int32} (M : MM w h s0) {g : Nat → Int32} (hg : Tl (h 0) g) (s : Nat → Int32) (x : Int32) : F_M_text_65 49 x 49 1 (MX (mW w 2 (cpR (h 0) (h 2))) g s) = some ((-1) - s 11, mW (mP w (upd (upd s 14 1) 9 0)) 2 (cpR (h 0) (h 2))) := by
  have MB := M.set (a := 2) (by omega) (cpR (h 0) (h 2))
  have T := M.setP (upd (upd s 14 1) 9 0)
  have T2 := T.set (a := 2) (by omega) (cpR (h 0) (h 2))
  have e : MX (mW w 2 (cpR (h 0) (h 2))) g (upd (upd s 14 1) 9 0) = mW (mW (mP w (upd (upd s 14 1) 9 0)) 2 (cpR (h 0) (h 2))) 0 g := by unfold MX; rw [mP_mW, mP_mW]
  unfold F_M_text_65
  rw [bz1, Option.bind_some, (MX_M MB g s).pf_ (k := 14) (by omega), Option.bind_some, MX_P, (MX_M MB g _).pf_ (k := 9) (by omega), Option.bind_some, MX_P, (MX_M MB g _).gi14, Option.bind_some, upd_n (by omega), upd_s, if_neg (by decide), (MX_M MB g _).ob_, Option.bind_some, e, M_back T hg, Option.bind_some, T2.gi11, Option.bind_some, upd_n (by omega), upd_n (by omega)]
theorem M_text {w : A_W} {h : Nat → Nat → Int32} {s : Nat → Int32} {a : Nat → Nat} {n : Nat} (M : MM w h s) (A : MA h a) (hn : n ≤ 120) (h9 : s 9 = nI n) (hf : Wf (h 0)) : ((txtR a n 120 (h 0) (tk a n 0) 1).1 = true → ∃ s', F_M_text 49 w = some (nI (txtR a n 120 (h 0) (tk a n 0) 1).2.2, mP (mW (mW w 2 (cpR (h 0) (h 2))) 0 (txtR a n 120 (h 0) (tk a n 0) 1).2.1) s') ∧ s' 9 = 0 ∧ s' 3 = s 3 ∧ Wf (txtR a n 120 (h 0) (tk a n 0) 1).2.1 ∧ 1 ≤ (txtR a n 120 (h 0) (tk a n 0) 1).2.2 ∧ (txtR a n 120 (h 0) (tk a n 0) 1).2.2 ≤ 120) ∧ (¬ (txtR a n 120 (h 0) (tk a n 0) 1).1 = true → ∃ s', F_M_text 49 w = some ((-1) - nI (txtR a n 120 (h 0) (tk a n 0) 1).2.2, mW (mP w s') 2 (cpR (h 0) (h 2))) ∧ s' 9 = 0 ∧ s' 3 = s 3) ∧ (txtR a n 120 (h 0) (tk a n 0) 1).2.2 ≤ 120 := by
  have MB := M.set (a := 2) (by omega) (cpR (h 0) (h 2))
  have AB : MA (hset h 2 (cpR (h 0) (h 2))) a := fun i hi => by rw [hset_ne _ _ (by omega)]; exact A i hi
  have eB : mW (mW w 2 (cpR (h 0) (h 2))) 0 (h 0) = mW w 2 (cpR (h 0) (h 2)) := by
    have := MB.mW_id (a := 0) (by omega)
    rw [hset_ne _ _ (by omega)] at this
    exact this
  have T1 := MB.setP (upd s 12 0)
  have T2 := MB.setP (upd (upd s 12 0) 14 0)
  obtain ⟨s1, e1, ht1, h141, h31⟩ := M_reads MB AB hn (p := 0) (Nat.zero_le n) (s := upd (upd s 12 0) 14 0) (by rw [upd_n (by omega), upd_n (by omega)]; exact h9) (by rw [upd_n (by omega), upd_s]; rfl)
  rw [upd_s] at h141
  rw [upd_n (by omega), upd_n (by omega)] at h31
  have T3 := MB.setP s1
  obtain ⟨s2, g, j, e2, h32, tl, rt, rf, rb⟩ := MX_text MB AB hn FU 120 1 (h 0) s1 (tk a n 0) hf ⟨0, Nat.zero_le n, rfl⟩ ht1 h141 (by omega) (by omega) (by omega) (by unfold FU; omega)
  have e3 : F_M_text 49 w = F_M_text_65 49 (nI j) 49 (if (txtR a n 120 (h 0) (tk a n 0) 1).1 = true then 0 else 1) (MX (mW w 2 (cpR (h 0) (h 2))) g s2) := by
    rw [← e2]
    unfold F_M_text F_M_text_0
    rw [M.ob_, Option.bind_some, M_thinks M, Option.bind_some, MB.pf_ (k := 12) (by omega), Option.bind_some, bz0, Option.bind_some, T1.pf_ (k := 14) (by omega), Option.bind_some, mP_mP, T2.ob_, Option.bind_some, e1, Option.bind_some, T3.ob_, Option.bind_some]
    unfold MX
    rw [eB]
    rfl
  rw [h31] at h32
  refine ⟨fun ok => ?_, fun no => ?_, rb⟩
  · obtain ⟨eg, ej, wf, j1, j2⟩ := rt ok
    rw [if_pos ok, M_text_65_t MB] at e3
    rw [e3, ← ej, ← eg]
    exact ⟨_, rfl, upd_s, by rw [upd_n (by omega), upd_n (by omega), h32], wf, j1, j2⟩
  · have e11 := rf no
    rw [if_neg no, M_text_65_f M tl, e11] at e3
    rw [e3]
    exact ⟨_, rfl, upd_s, by rw [upd_n (by omega), upd_n (by omega), h32]⟩
section TXS
variable {w : A_W} {h : Nat → Nat → Int32} {s : Nat → Int32} {g2 g3 q : Nat → Int32}
theorem RelX.dr (R : RelX w h s g2 g3 q) (u : Nat → Int32) : RelX (dW w u) h s g2 g3 u := by
  obtain ⟨M, K, R1, R2, R3⟩ := R
  exact ⟨MM_dW M u, KX_dW K u, RC_dW R1 (by omega) u, RC_dW R2 (by omega) u, RC_dW R3 (by omega) u⟩
theorem RelX.sp (R : RelX w h s g2 g3 q) {u : Nat → Int32} (h3 : u 3 = s 3) : RelX (mP w u) h u g2 g3 q := by
  obtain ⟨M, K, R1, R2, R3⟩ := R
  have F := mP_Fr w u
  refine ⟨M.setP u, ?_, RC_Fr R1 (by omega) F, RC_Fr R2 (by omega) F, RC_Fr R3 (by omega) F⟩
  rw [h3]
  exact KX_Fr K F
end TXS
theorem neg_le_121 : ∀ b, b < 121 → (-1 : Int32) - nI b ≤ 0 := by decide +kernel
set_option maxHeartbeats 4000000 in
theorem st30 : St30 Rel := by
  intro w ⟨h, s, g2, g3, q, R, G⟩
  obtain ⟨M, K, R1, R2, R3⟩ := R
  have R : RelX w h s g2 g3 q := ⟨M, K, R1, R2, R3⟩
  obtain ⟨G1, G2, G3, G4, ⟨n, hn, h9⟩, G6, G7⟩ := G
  have D := K.2.1
  obtain ⟨a, A⟩ : ∃ a, MA h a := ⟨fun i => (h 7 i).toNatClampNeg, fun i hi => ⟨nI_of_bd (G7 i hi).1 (G7 i hi).2, by show (h 7 i).toInt.toNat ≤ 255; have := G7 i hi; omega⟩⟩
  have B : TB w a := ⟨(List.getElem?_eq_some_iff.mp D).1, h 7, K.2.2.1, A⟩
  obtain ⟨f1, q1, e1, q10, ef⟩ := CX_readText R2 B hn (f := h 0) (q := q) G1 (by rw [G6]; exact h9)
  have eC : CX w (h 0) q = rW w 13 (h 0) := by unfold CX; exact dW_id (by rw [rW_at (by omega)]; exact D)
  rw [eC] at e1
  have RT := R.trial (h 0)
  have DT : (rW w 13 (h 0))[37]? = some (dobj q) := by rw [rW_at (by omega)]; exact D
  have RV : RelX (CX w f1 q1) h s f1 g3 q1 := (R.trial f1).dr q1
  have RU : RelX (CX w f1 (upd q1 0 0)) h s f1 g3 (upd q1 0 0) := (R.trial f1).dr (upd q1 0 0)
  have eU : dW (CX w f1 q1) (upd q1 0 0) = CX w f1 (upd q1 0 0) := by unfold CX; rw [dW_dW]
  have e2 : F_K_text 0 w = if (if (txtR a n 120 (h 0) (tk a n 0) 1).1 = true then nI (txtR a n 120 (h 0) (tk a n 0) 1).2.2 else (-1) - nI (txtR a n 120 (h 0) (tk a n 0) 1).2.2) ≤ 0 then F_K_text_38 0 (if (txtR a n 120 (h 0) (tk a n 0) 1).1 = true then nI (txtR a n 120 (h 0) (tk a n 0) 1).2.2 else (-1) - nI (txtR a n 120 (h 0) (tk a n 0) 1).2.2) (CX w f1 q1) else (F_R_become 1 13 (CX w f1 q1)).bind fun p12 => F_K_text_38 0 (if (txtR a n 120 (h 0) (tk a n 0) 1).1 = true then nI (txtR a n 120 (h 0) (tk a n 0) 1).2.2 else (-1) - nI (txtR a n 120 (h 0) (tk a n 0) 1).2.2) p12 := by
    unfold F_K_text F_K_text_0
    rw [R.kg1, Option.bind_some, R.kg0, Option.bind_some, R2.ob_, Option.bind_some, R_become R2 R1 (by omega), Option.bind_some, RT.kg4, Option.bind_some, RT.kg1, Option.bind_some, D_ob DT, Option.bind_some, e1, Option.bind_some]
    dsimp only
    rw [RV.kg0, Option.bind_some, RV.kg1, Option.bind_some, RV.2.2.1.ob_, Option.bind_some]
  by_cases ok : (txtR a n 120 (h 0) (tk a n 0) 1).1 = true
  · have e0 := ef ok
    have RM : MM (rW (CX w f1 (upd q1 0 0)) 1 f1) h s := MM_rW RU.1 (by omega) f1
    obtain ⟨mt, -, -⟩ := M_text RM A hn h9 G1
    obtain ⟨u, eM, u9, u3, wf, j1, j2⟩ := mt ok
    rw [← e0] at eM wf
    have kg4 : gr (rW (CX w f1 q1) 1 f1) 0 0 4 = some 37 := by
      have := RV.kg4
      unfold gr gf at this ⊢
      rw [rW_at (by omega)]
      exact this
    have DV : (rW (CX w f1 q1) 1 f1)[37]? = some (dobj q1) := by rw [rW_at (by omega)]; exact CX_D B f1 q1
    have eW : dW (rW (CX w f1 q1) 1 f1) (upd q1 0 0) = rW (CX w f1 (upd q1 0 0)) 1 f1 := by
      unfold CX
      rw [rW_dW _ _ _ (by omega), dW_dW, rW_dW _ _ _ (by omega)]
    rw [if_pos ok, if_neg (show ¬ nI (txtR a n 120 (h 0) (tk a n 0) 1).2.2 ≤ 0 from nI_ge (a := 0) (by omega) (by omega)), R_become RV.2.2.1 RV.2.2.2.1 (by omega), Option.bind_some] at e2
    unfold F_K_text_38 at e2
    rw [kg4, Option.bind_some, D_pf DV (k := 0) (by omega), Option.bind_some, eW] at e2
    refine ⟨_, _, e2, eM, rfl, ?_, _, RM.ob_⟩
    have RW := (RU.was (cpR (h 0) (h 2))).row f1
    rw [rW_mW _ _ _ (by omega)] at RW
    refine ⟨_, u, f1, g3, upd q1 0 0, RW.sp u3, Gd_row (Gd_was ⟨G1, ?_, ?_, G4, ⟨0, by omega, u9⟩, ?_, G7⟩ _) wf⟩
    · rw [u3]; exact G2
    · rw [u3]; exact G3
    · rw [upd_s, u9]
  · obtain ⟨-, mf, rb⟩ := M_text RU.1 A hn h9 G1
    obtain ⟨u, eM, u9, u3⟩ := mf ok
    have hle : (-1) - nI (txtR a n 120 (h 0) (tk a n 0) 1).2.2 ≤ 0 := neg_le_121 _ (by omega)
    rw [if_neg ok, if_pos hle] at e2
    unfold F_K_text_38 at e2
    rw [RV.kg4, Option.bind_some, D_pf (CX_D B f1 q1) (k := 0) (by omega), Option.bind_some, eU] at e2
    refine ⟨_, _, e2, eM, rfl, ?_, _, RU.1.ob_⟩
    refine ⟨_, u, f1, g3, upd q1 0 0, (RU.sp u3).was _, Gd_was ⟨G1, ?_, ?_, G4, ⟨0, by omega, u9⟩, ?_, G7⟩ _⟩
    · rw [u3]; exact G2
    · rw [u3]; exact G3
    · rw [upd_s, u9]
