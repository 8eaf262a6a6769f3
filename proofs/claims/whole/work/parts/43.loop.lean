/-! THE LAW'S LOOP over a relation Rel between the worlds of class and model, and the claim's walk out of it -/
def SP {T : Type} (Rel : A_W → Prop) (a b : A_W → Option (T × A_W)) : Prop := ∀ w, Rel w → ∃ p1 p2 : T × A_W, a w = some p1 ∧ b p1.2 = some p2 ∧ p1.1 = p2.1 ∧ Rel p2.2 ∧ ∃ f, ob p1.2 49 4 = some f
def St0 (Rel : A_W → Prop) : Prop := (∀ a1 a2 a3 : Int32, SP Rel (F_K_stand 0 a1 a2 a3) (F_M_stand 49 a1 a2 a3))
def St1 (Rel : A_W → Prop) : Prop := (∀ a1 : Int32, SP Rel (F_K_listed 0 a1) (F_M_listed 49 a1))
def St2 (Rel : A_W → Prop) : Prop := (∀ a1 a2 : Int32, SP Rel (F_K_deposit 0 a1 a2) (F_M_deposit 49 a1 a2))
def St3 (Rel : A_W → Prop) : Prop := (∀ a1 : Int32, SP Rel (F_K_girl 0 a1) (F_M_girl 49 a1))
def St4 (Rel : A_W → Prop) : Prop := (∀ a1 a2 : Int32, SP Rel (F_K_of 0 a1 a2) (F_M_of 49 a1 a2))
def St5 (Rel : A_W → Prop) : Prop := (∀ a1 a2 a3 : Int32, SP Rel (F_K_change 0 a1 a2 a3) (F_M_change 49 a1 a2 a3))
def St6 (Rel : A_W → Prop) : Prop := (∀ a1 a2 : Int32, SP Rel (F_K_ofGirl 0 a1 a2) (F_M_ofGirl 49 a1 a2))
def St7 (Rel : A_W → Prop) : Prop := (∀ a1 a2 a3 : Int32, SP Rel (F_K_wake 0 a1 a2 a3) (F_M_wake 49 a1 a2 a3))
def St8 (Rel : A_W → Prop) : Prop := (∀ a1 : Int32, SP Rel (F_K_light 0 a1) (F_M_light 49 a1))
def St9 (Rel : A_W → Prop) : Prop := (∀ a1 : Int32, SP Rel (F_K_call 0 a1) (F_M_call 49 a1))
def St10 (Rel : A_W → Prop) : Prop := (∀ a1 : Int32, SP Rel (F_K_go 0 a1) (F_M_go 49 a1))
def St11 (Rel : A_W → Prop) : Prop := (∀ a1 : Int32, SP Rel (F_K_now 0 a1) (F_M_now 49 a1))
def St12 (Rel : A_W → Prop) : Prop := (∀ a1 a2 a3 : Int32, SP Rel (F_K_ahead 0 a1 a2 a3) (F_M_ahead 49 a1 a2 a3))
def St13 (Rel : A_W → Prop) : Prop := (∀ a1 a2 a3 : Int32, SP Rel (F_K_later 0 a1 a2 a3) (F_M_later 49 a1 a2 a3))
def St14 (Rel : A_W → Prop) : Prop := (∀ a1 a2 : Int32, SP Rel (F_K_dawn 0 a1 a2) (F_M_dawn 49 a1 a2))
def St15 (Rel : A_W → Prop) : Prop := (∀ a1 a2 : Int32, SP Rel (F_K_meets 0 a1 a2) (F_M_meets 49 a1 a2))
def St16 (Rel : A_W → Prop) : Prop := (∀ a1 a2 : Int32, SP Rel (F_K_threadbare 0 a1 a2) (F_M_threadbare 49 a1 a2))
def St17 (Rel : A_W → Prop) : Prop := (∀ a1 : Int32, SP Rel (F_K_earns 0 a1) (F_M_earns 49 a1))
def St18 (Rel : A_W → Prop) : Prop := (∀ a1 a2 : Int32, SP Rel (F_K_hangFor 0 a1 a2) (F_M_hangFor 49 a1 a2))
def St19 (Rel : A_W → Prop) : Prop := (∀ a1 a2 : Int32, SP Rel (F_K_standFor 0 a1 a2) (F_M_standFor 49 a1 a2))
def St20 (Rel : A_W → Prop) : Prop := (∀ a1 a2 : Int32, SP Rel (F_K_kindFor 0 a1 a2) (F_M_kindFor 49 a1 a2))
def St21 (Rel : A_W → Prop) : Prop := (∀ a1 a2 : Int32, SP Rel (F_K_hopeFor 0 a1 a2) (F_M_hopeFor 49 a1 a2))
def St22 (Rel : A_W → Prop) : Prop := (∀ a1 : Int32, SP Rel (F_K_giveOut 0 a1) (F_M_giveOut 49 a1))
def St23 (Rel : A_W → Prop) : Prop := (∀ a1 a2 : Int32, SP Rel (F_K_fits 0 a1 a2) (F_M_fits 49 a1 a2))
def St24 (Rel : A_W → Prop) : Prop := (∀ a1 a2 : Int32, SP Rel (F_K_kinds 0 a1 a2) (F_M_kinds 49 a1 a2))
def St25 (Rel : A_W → Prop) : Prop := (∀ a1 : Int32, SP Rel (F_K_night 0 a1) (F_M_night 49 a1))
def St26 (Rel : A_W → Prop) : Prop := (∀ a1 a2 : Int32, SP Rel (F_K_odds 0 a1 a2) (F_M_odds 49 a1 a2))
def St27 (Rel : A_W → Prop) : Prop := (∀ a1 : Int32, SP Rel (F_K_seed 0 a1) (F_M_seed 49 a1))
def St28 (Rel : A_W → Prop) : Prop := (∀ a1 a2 : Int32, SP Rel (F_K_feed 0 a1 a2) (F_M_feed 49 a1 a2))
def St29 (Rel : A_W → Prop) : Prop := (SP Rel (F_K_wipe 0) (F_M_wipe 49))
def St30 (Rel : A_W → Prop) : Prop := (SP Rel (F_K_text 0) (F_M_text 49))
def St31 (Rel : A_W → Prop) : Prop := (∀ a1 a2 : Int32, SP Rel (F_K_hold 0 a1 a2) (F_M_hold 49 a1 a2))
def St32 (Rel : A_W → Prop) : Prop := (∀ a1 a2 : Int32, SP Rel (F_K_as 0 a1 a2) (F_M_as 49 a1 a2))
def St33 (Rel : A_W → Prop) : Prop := (∀ a1 a2 a3 : Int32, SP Rel (F_K_sheet 0 a1 a2 a3) (F_M_sheet 49 a1 a2 a3))
def St34 (Rel : A_W → Prop) : Prop := (∀ a1 a2 a3 : Int32, SP Rel (F_K_write 0 a1 a2 a3) (F_M_write 49 a1 a2 a3))
def St35 (Rel : A_W → Prop) : Prop := (∀ a1 a2 a3 a4 a5 : Int32, SP Rel (F_K_copy 0 a1 a2 a3 a4 a5) (F_M_copy 49 a1 a2 a3 a4 a5))
def St36 (Rel : A_W → Prop) : Prop := (∀ a1 : Int32, SP Rel (F_K_load 0 a1) (F_M_load 49 a1))
def St37 (Rel : A_W → Prop) : Prop := (∀ a1 : Int32, SP Rel (F_K_judge 0 a1) (F_M_judge 49 a1))
def St38 (Rel : A_W → Prop) : Prop := (SP Rel (F_K_image 0) (F_M_image 49))
def St39 (Rel : A_W → Prop) : Prop := (SP Rel (F_K_undo 0) (F_M_undo 49))
def St40 (Rel : A_W → Prop) : Prop := (SP Rel (F_K_tear 0) (F_M_tear 49))
def St41 (Rel : A_W → Prop) : Prop := (∀ a1 : Int32, SP Rel (F_K_count 0 a1) (F_M_count 49 a1))
def St42 (Rel : A_W → Prop) : Prop := (∀ a1 : Int32, SP Rel (F_K_status 0 a1) (F_M_status 49 a1))
def Steps43 (Rel : A_W → Prop) : Prop := St0 Rel ∧ St1 Rel ∧ St2 Rel ∧ St3 Rel ∧ St4 Rel ∧ St5 Rel ∧ St6 Rel ∧ St7 Rel ∧ St8 Rel ∧ St9 Rel ∧ St10 Rel ∧ St11 Rel ∧ St12 Rel ∧ St13 Rel ∧ St14 Rel ∧ St15 Rel ∧ St16 Rel ∧ St17 Rel ∧ St18 Rel ∧ St19 Rel ∧ St20 Rel ∧ St21 Rel ∧ St22 Rel ∧ St23 Rel ∧ St24 Rel ∧ St25 Rel ∧ St26 Rel ∧ St27 Rel ∧ St28 Rel ∧ St29 Rel ∧ St30 Rel ∧ St31 Rel ∧ St32 Rel ∧ St33 Rel ∧ St34 Rel ∧ St35 Rel ∧ St36 Rel ∧ St37 Rel ∧ St38 Rel ∧ St39 Rel ∧ St40 Rel ∧ St41 Rel ∧ St42 Rel
theorem inb_nI {j n : Nat} (h : j < n) (hn : n < 2 ^ 31) : inb (nI j) n := ⟨nI_pos (by omega), by rw [nI_clamp (by omega)]; exact h⟩
theorem inb_nIk {i k n : Nat} (h : i + k < n) (hn : n < 2 ^ 31) {x : Int32} (e : x = nI (i + k)) : inb x n := by subst e; exact inb_nI h hn
set_option maxHeartbeats 8000000 in
set_option maxRecDepth 100000 in
theorem law_loop {G : Gx} {X : Cx} {L : Nat} {xs : Nat → Int32} {Rel : A_W → Prop} (hob : ∀ w, Rel w → ∃ f, ob w 0 0 = some f) (hS : Steps43 Rel) (K : Ok G X 12 code 4 ret room_1) (hs : Sc G X L xs) (hL : L ≤ 3072) (hend : ∀ (w : A_W) (r : A_R), Sm G X w 58 1181 r [] 1506) : ∀ (n i : Nat) (w : A_W), i ≤ L + 5 → L + 6 ≤ i + 6 * n → Rel w → Sm G X w 58 1181 [some (.ref scA), some (.ref 0), some (.ref 49), some (.int (nI i))] [] 18 := by
  obtain ⟨s0, s1, s2, s3, s4, s5, s6, s7, s8, s9, s10, s11, s12, s13, s14, s15, s16, s17, s18, s19, s20, s21, s22, s23, s24, s25, s26, s27, s28, s29, s30, s31, s32, s33, s34, s35, s36, s37, s38, s39, s40, s41, s42⟩ := hS
  intro n
  induction n with
  | zero => intro i w h1 h2; exact absurd h2 (by omega)
  | succ n ih =>
    intro i w hi hn hw
    refine Sm_run K ek_L0 10 2 rfl ?_
    refine Sm_slen K hs (eok_i (eo ek_L0 (i := 12) rfl) rfl) ?_
    refine Sm_run K ek_L0 13 2 rfl ?_
    refine Sm_ic_gt K (eo ek_L0 (i := 15) rfl) (fun _ => hend _ _) (fun c => ?_)
    have hiL : i + 6 ≤ L := by
      rcases Nat.lt_or_ge L (i + 6) with z | z
      · exfalso
        refine c ?_
        rw [Int32.lt_iff_toInt_lt]
        have e1 : (Int32.ofNat L - 6).toInt = (L : Int) - ((6 : Nat) : Int) := pk_sub_toInt (a := L) (b := 6) (by omega) (by omega)
        rw [e1, nI_toInt (by omega)]
        omega
      · exact z
    refine Sm_run K ek_L0 16 2 rfl ?_
    refine Sm_sld K hs (eok_i (eo ek_L0 (i := 18) rfl) rfl) (inb_nI (by omega) (by omega)) ?_
    refine Sm_run K ek_L0 19 2 rfl ?_
    have h1 : inb (nI i + 1) L := inb_nIk (i := i) (k := 1) (by omega) (by omega) (nI_add i 1)
    have h2 : inb (nI i + 2) L := inb_nIk (i := i) (k := 2) (by omega) (by omega) (nI_add i 2)
    have h3 : inb (nI i + 3) L := inb_nIk (i := i) (k := 3) (by omega) (by omega) (nI_add i 3)
    have h4 : inb (nI i + 4) L := inb_nIk (i := i) (k := 4) (by omega) (by omega) (nI_add i 4)
    have h5 : inb (nI i + 5) L := inb_nIk (i := i) (k := 5) (by omega) (by omega) (nI_add i 5)
    have kk : ∀ w, Rel w → Sm G X w 58 1181 [some (.ref scA), some (.ref 0), some (.ref 49), some (.int (nI i))] [] 1500 := by
      intro w hw
      refine Sm_run K ek_L17 24 2 rfl ?_
      have e : nI i + 6 = nI (i + 6) := nI_add i 6
      rw [e]
      exact ih (i + 6) w (by omega) (by omega) hw
    obtain ⟨f1, o1⟩ := hob w hw
    generalize hx0 : xs (nI i).toNatClampNeg &&& 63 = x0
    refine Sm_tsw K (eok_d (eo ek_L0 (i := 21) rfl)) [220, 263, 286, 319, 342, 375, 418, 451, 494, 517, 540, 563, 586, 629, 672, 705, 738, 771, 794, 827, 860, 893, 926, 949, 982, 1015, 1038, 1072, 1095, 1128, 1141, 1154, 1187, 1220, 1263, 1306, 1369, 1392, 1415, 1428, 1441, 1454, 1477] 1500 (by decide) (by decide) (by decide) (fun j hj hx => ?_) (fun _ => kk w hw)
    have hj : j < 43 := hj
    rcases (show j = 0 ∨ j = 1 ∨ j = 2 ∨ j = 3 ∨ j = 4 ∨ j = 5 ∨ j = 6 ∨ j = 7 ∨ j = 8 ∨ j = 9 ∨ j = 10 ∨ j = 11 ∨ j = 12 ∨ j = 13 ∨ j = 14 ∨ j = 15 ∨ j = 16 ∨ j = 17 ∨ j = 18 ∨ j = 19 ∨ j = 20 ∨ j = 21 ∨ j = 22 ∨ j = 23 ∨ j = 24 ∨ j = 25 ∨ j = 26 ∨ j = 27 ∨ j = 28 ∨ j = 29 ∨ j = 30 ∨ j = 31 ∨ j = 32 ∨ j = 33 ∨ j = 34 ∨ j = 35 ∨ j = 36 ∨ j = 37 ∨ j = 38 ∨ j = 39 ∨ j = 40 ∨ j = 41 ∨ j = 42 by omega) with rfl | rfl | rfl | rfl | rfl | rfl | rfl | rfl | rfl | rfl | rfl | rfl | rfl | rfl | rfl | rfl | rfl | rfl | rfl | rfl | rfl | rfl | rfl | rfl | rfl | rfl | rfl | rfl | rfl | rfl | rfl | rfl | rfl | rfl | rfl | rfl | rfl | rfl | rfl | rfl | rfl | rfl | rfl
    · obtain ⟨p1, p2, e1, e2, he, hR, f2, o2⟩ := s0 _ _ _ w hw
      exact Sm_pc (pc1 := 220) rfl (lc_0 K hs h1 h2 h3 o1 e1 o2 e2 he (kk _ hR))
    · obtain ⟨p1, p2, e1, e2, he, hR, f2, o2⟩ := s1 _ w hw
      exact Sm_pc (pc1 := 263) rfl (lc_1 K hs h1 o1 e1 o2 e2 he (kk _ hR))
    · obtain ⟨p1, p2, e1, e2, he, hR, f2, o2⟩ := s2 _ _ w hw
      exact Sm_pc (pc1 := 286) rfl (lc_2 K hs h1 h2 o1 e1 o2 e2 he (kk _ hR))
    · obtain ⟨p1, p2, e1, e2, he, hR, f2, o2⟩ := s3 _ w hw
      exact Sm_pc (pc1 := 319) rfl (lc_3 K hs h1 o1 e1 o2 e2 he (kk _ hR))
    · obtain ⟨p1, p2, e1, e2, he, hR, f2, o2⟩ := s4 _ _ w hw
      exact Sm_pc (pc1 := 342) rfl (lc_4 K hs h1 h2 o1 e1 o2 e2 he (kk _ hR))
    · obtain ⟨p1, p2, e1, e2, he, hR, f2, o2⟩ := s5 _ _ _ w hw
      exact Sm_pc (pc1 := 375) rfl (lc_5 K hs h1 h2 h3 o1 e1 o2 e2 he (kk _ hR))
    · obtain ⟨p1, p2, e1, e2, he, hR, f2, o2⟩ := s6 _ _ w hw
      exact Sm_pc (pc1 := 418) rfl (lc_6 K hs h1 h2 o1 e1 o2 e2 he (kk _ hR))
    · obtain ⟨p1, p2, e1, e2, he, hR, f2, o2⟩ := s7 _ _ _ w hw
      exact Sm_pc (pc1 := 451) rfl (lc_7 K hs h1 h2 h3 o1 e1 o2 e2 he (kk _ hR))
    · obtain ⟨p1, p2, e1, e2, he, hR, f2, o2⟩ := s8 _ w hw
      exact Sm_pc (pc1 := 494) rfl (lc_8 K hs h1 o1 e1 o2 e2 he (kk _ hR))
    · obtain ⟨p1, p2, e1, e2, he, hR, f2, o2⟩ := s9 _ w hw
      exact Sm_pc (pc1 := 517) rfl (lc_9 K hs h1 o1 e1 o2 e2 he (kk _ hR))
    · obtain ⟨p1, p2, e1, e2, he, hR, f2, o2⟩ := s10 _ w hw
      exact Sm_pc (pc1 := 540) rfl (lc_10 K hs h1 o1 e1 o2 e2 he (kk _ hR))
    · obtain ⟨p1, p2, e1, e2, he, hR, f2, o2⟩ := s11 _ w hw
      exact Sm_pc (pc1 := 563) rfl (lc_11 K hs h1 o1 e1 o2 e2 he (kk _ hR))
    · obtain ⟨p1, p2, e1, e2, he, hR, f2, o2⟩ := s12 _ _ _ w hw
      exact Sm_pc (pc1 := 586) rfl (lc_12 K hs h1 h2 h3 o1 e1 o2 e2 he (kk _ hR))
    · obtain ⟨p1, p2, e1, e2, he, hR, f2, o2⟩ := s13 _ _ _ w hw
      exact Sm_pc (pc1 := 629) rfl (lc_13 K hs h1 h2 h3 o1 e1 o2 e2 he (kk _ hR))
    · obtain ⟨p1, p2, e1, e2, he, hR, f2, o2⟩ := s14 _ _ w hw
      exact Sm_pc (pc1 := 672) rfl (lc_14 K hs h1 h2 o1 e1 o2 e2 he (kk _ hR))
    · obtain ⟨p1, p2, e1, e2, he, hR, f2, o2⟩ := s15 _ _ w hw
      exact Sm_pc (pc1 := 705) rfl (lc_15 K hs h1 h2 o1 e1 o2 e2 he (kk _ hR))
    · obtain ⟨p1, p2, e1, e2, he, hR, f2, o2⟩ := s16 _ _ w hw
      exact Sm_pc (pc1 := 738) rfl (lc_16 K hs h1 h2 o1 e1 o2 e2 he (kk _ hR))
    · obtain ⟨p1, p2, e1, e2, he, hR, f2, o2⟩ := s17 _ w hw
      exact Sm_pc (pc1 := 771) rfl (lc_17 K hs h1 o1 e1 o2 e2 he (kk _ hR))
    · obtain ⟨p1, p2, e1, e2, he, hR, f2, o2⟩ := s18 _ _ w hw
      exact Sm_pc (pc1 := 794) rfl (lc_18 K hs h1 h2 o1 e1 o2 e2 he (kk _ hR))
    · obtain ⟨p1, p2, e1, e2, he, hR, f2, o2⟩ := s19 _ _ w hw
      exact Sm_pc (pc1 := 827) rfl (lc_19 K hs h1 h2 o1 e1 o2 e2 he (kk _ hR))
    · obtain ⟨p1, p2, e1, e2, he, hR, f2, o2⟩ := s20 _ _ w hw
      exact Sm_pc (pc1 := 860) rfl (lc_20 K hs h1 h2 o1 e1 o2 e2 he (kk _ hR))
    · obtain ⟨p1, p2, e1, e2, he, hR, f2, o2⟩ := s21 _ _ w hw
      exact Sm_pc (pc1 := 893) rfl (lc_21 K hs h1 h2 o1 e1 o2 e2 he (kk _ hR))
    · obtain ⟨p1, p2, e1, e2, he, hR, f2, o2⟩ := s22 _ w hw
      exact Sm_pc (pc1 := 926) rfl (lc_22 K hs h1 o1 e1 o2 e2 he (kk _ hR))
    · obtain ⟨p1, p2, e1, e2, he, hR, f2, o2⟩ := s23 _ _ w hw
      exact Sm_pc (pc1 := 949) rfl (lc_23 K hs h1 h2 o1 e1 o2 e2 he (kk _ hR))
    · obtain ⟨p1, p2, e1, e2, he, hR, f2, o2⟩ := s24 _ _ w hw
      exact Sm_pc (pc1 := 982) rfl (lc_24 K hs h1 h2 o1 e1 o2 e2 he (kk _ hR))
    · obtain ⟨p1, p2, e1, e2, he, hR, f2, o2⟩ := s25 _ w hw
      exact Sm_pc (pc1 := 1015) rfl (lc_25 K hs h1 o1 e1 o2 e2 he (kk _ hR))
    · obtain ⟨p1, p2, e1, e2, he, hR, f2, o2⟩ := s26 _ _ w hw
      exact Sm_pc (pc1 := 1038) rfl (lc_26 K hs h1 h2 o1 e1 o2 e2 he (kk _ hR))
    · obtain ⟨p1, p2, e1, e2, he, hR, f2, o2⟩ := s27 _ w hw
      exact Sm_pc (pc1 := 1072) rfl (lc_27 K hs h1 o1 e1 o2 e2 he (kk _ hR))
    · obtain ⟨p1, p2, e1, e2, he, hR, f2, o2⟩ := s28 _ _ w hw
      exact Sm_pc (pc1 := 1095) rfl (lc_28 K hs h1 h2 o1 e1 o2 e2 he (kk _ hR))
    · obtain ⟨p1, p2, e1, e2, he, hR, f2, o2⟩ := s29 w hw
      exact Sm_pc (pc1 := 1128) rfl (lc_29 K hs o1 e1 o2 e2 he (kk _ hR))
    · obtain ⟨p1, p2, e1, e2, he, hR, f2, o2⟩ := s30 w hw
      exact Sm_pc (pc1 := 1141) rfl (lc_30 K hs o1 e1 o2 e2 he (kk _ hR))
    · obtain ⟨p1, p2, e1, e2, he, hR, f2, o2⟩ := s31 _ _ w hw
      exact Sm_pc (pc1 := 1154) rfl (lc_31 K hs h1 h2 o1 e1 o2 e2 he (kk _ hR))
    · obtain ⟨p1, p2, e1, e2, he, hR, f2, o2⟩ := s32 _ _ w hw
      exact Sm_pc (pc1 := 1187) rfl (lc_32 K hs h1 h2 o1 e1 o2 e2 he (kk _ hR))
    · obtain ⟨p1, p2, e1, e2, he, hR, f2, o2⟩ := s33 _ _ _ w hw
      exact Sm_pc (pc1 := 1220) rfl (lc_33 K hs h1 h2 h3 o1 e1 o2 e2 he (kk _ hR))
    · obtain ⟨p1, p2, e1, e2, he, hR, f2, o2⟩ := s34 _ _ _ w hw
      exact Sm_pc (pc1 := 1263) rfl (lc_34 K hs h1 h2 h3 o1 e1 o2 e2 he (kk _ hR))
    · obtain ⟨p1, p2, e1, e2, he, hR, f2, o2⟩ := s35 _ _ _ _ _ w hw
      exact Sm_pc (pc1 := 1306) rfl (lc_35 K hs h1 h2 h3 h4 h5 o1 e1 o2 e2 he (kk _ hR))
    · obtain ⟨p1, p2, e1, e2, he, hR, f2, o2⟩ := s36 _ w hw
      exact Sm_pc (pc1 := 1369) rfl (lc_36 K hs h1 o1 e1 o2 e2 he (kk _ hR))
    · obtain ⟨p1, p2, e1, e2, he, hR, f2, o2⟩ := s37 _ w hw
      exact Sm_pc (pc1 := 1392) rfl (lc_37 K hs h1 o1 e1 o2 e2 he (kk _ hR))
    · obtain ⟨p1, p2, e1, e2, he, hR, f2, o2⟩ := s38 w hw
      exact Sm_pc (pc1 := 1415) rfl (lc_38 K hs o1 e1 o2 e2 he (kk _ hR))
    · obtain ⟨p1, p2, e1, e2, he, hR, f2, o2⟩ := s39 w hw
      exact Sm_pc (pc1 := 1428) rfl (lc_39 K hs o1 e1 o2 e2 he (kk _ hR))
    · obtain ⟨p1, p2, e1, e2, he, hR, f2, o2⟩ := s40 w hw
      exact Sm_pc (pc1 := 1441) rfl (lc_40 K hs o1 e1 o2 e2 he (kk _ hR))
    · obtain ⟨p1, p2, e1, e2, he, hR, f2, o2⟩ := s41 _ w hw
      exact Sm_pc (pc1 := 1454) rfl (lc_41 K hs h1 o1 e1 o2 e2 he (kk _ hR))
    · obtain ⟨p1, p2, e1, e2, he, hR, f2, o2⟩ := s42 _ w hw
      exact Sm_pc (pc1 := 1477) rfl (lc_42 K hs h1 o1 e1 o2 e2 he (kk _ hR))
def blK : A_E := .inr (.inr (0, [.null, .null, .null, .int 0, .null, .null, .null]))
def blM : A_E := .inr (.inr (4, [.null, .null, .null, .int 0, .null, .null, .null, .null, .null, .int 0, .int 0, .int 0, .int 0, .int 0, .int 0]))
set_option maxHeartbeats 8000000 in
set_option maxRecDepth 100000 in
theorem law_walk {G : Gx} {X : Cx} {L : Nat} {xs : Nat → Int32} {Rel : A_W → Prop} (hob : ∀ w, Rel w → ∃ f, ob w 0 0 = some f) (hS : Steps43 Rel) (K : Ok G X 12 code 4 ret room_1) (hs : Sc G X L xs) (hL : L ≤ 3072) (hend : ∀ (w : A_W) (r : A_R), Sm G X w 58 1181 r [] 1506) {w1 w2 : A_W} (h1 : F_K_init 0 [blK] = some w1) (hl : w1.length = 49) (h2 : F_M_init 49 (w1 ++ [blM]) = some w2) (hR : Rel w2) : Sm G X [] 0 0 [some (.ref scA), none, none, none] [] 0 := by
  refine Sm_new K (eok_i (eo ek_L0 (i := 0) rfl) rfl) (ci := 0) (by decide) (lgm 81 (by decide +kernel) rfl) (lgm 82 (by decide +kernel) rfl) (lgm 68 (by decide +kernel) rfl) (fs := [.null, .null, .null, .int 0, .null, .null, .null]) nw0 (by decide) (Nat.le_of_ble_eq_true rfl) (Nat.le_of_ble_eq_true rfl) ?_
  refine Sm_eq (st1 := [.ref 0]) (nc1 := 1) (ns1 := 7) rfl rfl rfl ?_
  refine Sm_run K ek_L0 1 1 rfl ?_
  refine Sm_callI K (eok_i (eo ek_L0 (i := 2) rfl) rfl) cy_K_init im_K_init rfl (lgm 83 (by decide +kernel) rfl) ⟨Nat.le_of_ble_eq_true rfl, Nat.le_of_ble_eq_true rfl⟩ (as := []) (b := 0) (st := [.ref 0]) rfl rfl rfl (Nat.le_of_ble_eq_true rfl) ⟨Nat.le_of_ble_eq_true rfl, Nat.le_of_ble_eq_true rfl⟩ (cn_K_init h1) ?_
  refine Sm_eq (st1 := [.ref 0]) (nc1 := 49) (ns1 := 610) rfl rfl rfl ?_
  refine Sm_run K ek_L0 3 1 rfl ?_
  refine Sm_new K (eok_i (eo ek_L0 (i := 4) rfl) rfl) (ci := 4) (by decide) (lgm 756 (by decide +kernel) rfl) (lgm 757 (by decide +kernel) rfl) (lgm 73 (by decide +kernel) rfl) (fs := [.null, .null, .null, .int 0, .null, .null, .null, .null, .null, .int 0, .int 0, .int 0, .int 0, .int 0, .int 0]) nw4 (by rw [hl]; decide) (Nat.le_of_ble_eq_true rfl) (Nat.le_of_ble_eq_true rfl) ?_
  refine Sm_eq (st1 := [.ref 49]) (nc1 := 50) (ns1 := 625) (by rw [hl]) rfl rfl ?_
  refine Sm_run K ek_L0 5 1 rfl ?_
  refine Sm_callI K (eok_i (eo ek_L0 (i := 6) rfl) rfl) cy_M_init im_M_init rfl (lgm 758 (by decide +kernel) rfl) ⟨Nat.le_of_ble_eq_true rfl, Nat.le_of_ble_eq_true rfl⟩ (as := []) (b := 49) (st := [.ref 49]) rfl rfl rfl (Nat.le_of_ble_eq_true rfl) ⟨Nat.le_of_ble_eq_true rfl, Nat.le_of_ble_eq_true rfl⟩ (cn_M_init h2) ?_
  refine Sm_eq (st1 := [.ref 49]) (nc1 := 58) (ns1 := 1181) rfl rfl rfl ?_
  refine Sm_run K ek_L0 7 3 rfl ?_
  exact law_loop hob hS K hs hL hend 513 0 w2 (by omega) (by omega) hR
theorem law_end {G : Gx} {X : Cx} {b : Nat} (K : Ok G X 12 code 4 ret room_1) (hB : gB G = (xS X).heap.size) (hg : xG X = #[Value.ref b]) (hQ : xQ X = lw_Z (xB X) #[Value.ref b] (xS X)) (w : A_W) (r : A_R) : Sm G X w 58 1181 r [] 1506 := by
  refine Sm_run K ek_L17 26 1 rfl ?_
  intro H locs ls hw hS hl
  rw [hQ, hg, K.2.2.2.2.2.2.2.2.1]
  refine va_forget (fun q hq => by rw [← hB]; exact hS.2.2 q hq) ?_
  refine W.widen (k := 600000) (n := 7302249) (Nat.le_of_ble_eq_true rfl) (Nat.le_of_ble_eq_true rfl) ?_
  exact lw_ret K.1 K.2.1 K.2.2.1 K.2.2.2.2.2.2.2.1 (eok_i (eo ek_L17 (i := 27) rfl) rfl)
theorem whole_rel {Rel : A_W → Prop} (hob : ∀ w, Rel w → ∃ f, ob w 0 0 = some f) (hS : Steps43 Rel) {w1 w2 : A_W} (h1 : F_K_init 0 [blK] = some w1) (hl1 : w1.length = 49) (h2 : F_M_init 49 (w1 ++ [blM]) = some w2) (hR : Rel w2) {p : Program} {e : Env} {s : State} {m : MethodId} {below : List Frame} {meth : Method} {c : Code} (l : Launch) {b L : Nat} {xs : Nat → Int32} (hL : L ≤ 3072) (C0 : lw_At p s m meth c b L xs) : W p l e room_1 s m #[Value.ref b] below meth c s.heap [] 0 0 (lw_Z below #[Value.ref b] s) (entryFrame m ([Value.ref b] : List Value).toArray 4) := by
  obtain ⟨hx, hb, hr, hml, hown, hts, hX, hbl, hlocks, hgv⟩ := C0
  obtain ⟨G, rfl, hB, hKK, hsc⟩ := mk_G l hts hgv b
  have K : Ok G (p, e, room_1, s, m, #[Value.ref b], below, meth, c, lw_Z below #[Value.ref b] s) 12 code 4 ret room_1 := ⟨hx, hb, hr, hml, hown, fun w h => hts w (List.mem_filter.mp h).1, hKK, hlocks, rfl, Nat.le_of_eq hB⟩
  have hs : Sc G (p, e, room_1, s, m, #[Value.ref b], below, meth, c, lw_Z below #[Value.ref b] s) L xs := by
    refine ⟨?_, ?_, ?_⟩
    · rw [hsc]; exact hX
    · rw [hsc]; exact hbl
    · rw [hsc]; show ¬ gB G ≤ b; rw [hB]; exact Nat.not_le.mpr hbl
  have h := law_walk hob hS K hs hL (law_end K hB rfl rfl) h1 hl1 h2 hR
  rw [lg_entry_eq]
  have hl := lv_entry ([Value.ref b]) (n := 4) (Nat.le_of_ble_eq_true rfl)
  refine h s.heap [] _ ⟨by rw [hB]; rfl, by decide, fun k q hq => by simp at hq⟩ va_S.rf (LH.of hl ?_)
  intro i v hi
  match i, hi with
  | 0, hi => cases hi; show (0, Value.ref (ad G scA)) ∈ _; rw [hsc]; exact List.mem_cons_self
  | 1, hi => cases hi
  | 2, hi => cases hi
  | 3, hi => cases hi
  | i + 4, hi => cases hi
