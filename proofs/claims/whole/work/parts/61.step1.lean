/-! the rooms at 1, 13, 25 by number, for simp -/
section RNM
variable {w : A_W} {g : Nat → Int32}
theorem RC.a_gr5 (hR : RC w 1 g) : gr w 1 2 5 = some 2 := hR.gr5
theorem RC.a_gr6 (hR : RC w 1 g) : gr w 1 2 6 = some 3 := hR.gr6
theorem RC.a_gr7 (hR : RC w 1 g) : gr w 1 2 7 = some 4 := hR.gr7
theorem RC.a_gr8 (hR : RC w 1 g) : gr w 1 2 8 = some 5 := hR.gr8
theorem RC.a_gr9 (hR : RC w 1 g) : gr w 1 2 9 = some 6 := hR.gr9
theorem RC.a_gr10 (hR : RC w 1 g) : gr w 1 2 10 = some 7 := hR.gr10
theorem RC.a_gr11 (hR : RC w 1 g) : gr w 1 2 11 = some 8 := hR.gr11
theorem RC.a_gr12 (hR : RC w 1 g) : gr w 1 2 12 = some 9 := hR.gr12
theorem RC.a_gr13 (hR : RC w 1 g) : gr w 1 2 13 = some 10 := hR.gr13
theorem RC.a_gr14 (hR : RC w 1 g) : gr w 1 2 14 = some 11 := hR.gr14
theorem RC.a_gr15 (hR : RC w 1 g) : gr w 1 2 15 = some 12 := hR.gr15
theorem RC.a_rd_list (hR : RC w 1 g) {i : Nat} (hi : i < 6) {x : Int32} (hx : x = nI i) : rd w 2 x = some (g (5 + i)) := hR.rd_list hi hx
theorem RC.a_wr_list (hR : RC w 1 g) {i : Nat} (hi : i < 6) {x : Int32} (hx : x = nI i) (v : Int32) : wr w 2 x v = some (rW w 1 (upd g (5 + i) v)) := hR.wr_list hi hx v
theorem RC.a_rd_kind (hR : RC w 1 g) {i : Nat} (hi : i < 8) {x : Int32} (hx : x = nI i) : rd w 3 x = some (g (11 + 6 * i)) := hR.rd_kind hi hx
theorem RC.a_wr_kind (hR : RC w 1 g) {i : Nat} (hi : i < 8) {x : Int32} (hx : x = nI i) (v : Int32) : wr w 3 x v = some (rW w 1 (upd g (11 + 6 * i) v)) := hR.wr_kind hi hx v
theorem RC.a_rd_hanger (hR : RC w 1 g) {i : Nat} (hi : i < 8) {x : Int32} (hx : x = nI i) : rd w 4 x = some (g (12 + 6 * i)) := hR.rd_hanger hi hx
theorem RC.a_wr_hanger (hR : RC w 1 g) {i : Nat} (hi : i < 8) {x : Int32} (hx : x = nI i) (v : Int32) : wr w 4 x v = some (rW w 1 (upd g (12 + 6 * i) v)) := hR.wr_hanger hi hx v
theorem RC.a_rd_stub (hR : RC w 1 g) {i : Nat} (hi : i < 8) {x : Int32} (hx : x = nI i) : rd w 5 x = some (g (13 + 6 * i)) := hR.rd_stub hi hx
theorem RC.a_wr_stub (hR : RC w 1 g) {i : Nat} (hi : i < 8) {x : Int32} (hx : x = nI i) (v : Int32) : wr w 5 x v = some (rW w 1 (upd g (13 + 6 * i) v)) := hR.wr_stub hi hx v
theorem RC.a_rd_kept (hR : RC w 1 g) {i : Nat} (hi : i < 8) {x : Int32} (hx : x = nI i) : rd w 6 x = some (g (14 + 6 * i)) := hR.rd_kept hi hx
theorem RC.a_wr_kept (hR : RC w 1 g) {i : Nat} (hi : i < 8) {x : Int32} (hx : x = nI i) (v : Int32) : wr w 6 x v = some (rW w 1 (upd g (14 + 6 * i) v)) := hR.wr_kept hi hx v
theorem RC.a_rd_worn (hR : RC w 1 g) {i : Nat} (hi : i < 8) {x : Int32} (hx : x = nI i) : rd w 7 x = some (g (15 + 6 * i)) := hR.rd_worn hi hx
theorem RC.a_wr_worn (hR : RC w 1 g) {i : Nat} (hi : i < 8) {x : Int32} (hx : x = nI i) (v : Int32) : wr w 7 x v = some (rW w 1 (upd g (15 + 6 * i) v)) := hR.wr_worn hi hx v
theorem RC.a_rd_out (hR : RC w 1 g) {i : Nat} (hi : i < 8) {x : Int32} (hx : x = nI i) : rd w 8 x = some (g (16 + 6 * i)) := hR.rd_out hi hx
theorem RC.a_wr_out (hR : RC w 1 g) {i : Nat} (hi : i < 8) {x : Int32} (hx : x = nI i) (v : Int32) : wr w 8 x v = some (rW w 1 (upd g (16 + 6 * i) v)) := hR.wr_out hi hx v
theorem RC.a_rd_dream (hR : RC w 1 g) {i : Nat} (hi : i < 6) {x : Int32} (hx : x = nI i) : rd w 9 x = some (g (59 + 3 * i)) := hR.rd_dream hi hx
theorem RC.a_wr_dream (hR : RC w 1 g) {i : Nat} (hi : i < 6) {x : Int32} (hx : x = nI i) (v : Int32) : wr w 9 x v = some (rW w 1 (upd g (59 + 3 * i) v)) := hR.wr_dream hi hx v
theorem RC.a_rd_hope (hR : RC w 1 g) {i : Nat} (hi : i < 6) {x : Int32} (hx : x = nI i) : rd w 10 x = some (g (60 + 3 * i)) := hR.rd_hope hi hx
theorem RC.a_wr_hope (hR : RC w 1 g) {i : Nat} (hi : i < 6) {x : Int32} (hx : x = nI i) (v : Int32) : wr w 10 x v = some (rW w 1 (upd g (60 + 3 * i) v)) := hR.wr_hope hi hx v
theorem RC.a_rd_met (hR : RC w 1 g) {i : Nat} (hi : i < 6) {x : Int32} (hx : x = nI i) : rd w 11 x = some (g (61 + 3 * i)) := hR.rd_met hi hx
theorem RC.a_wr_met (hR : RC w 1 g) {i : Nat} (hi : i < 6) {x : Int32} (hx : x = nI i) (v : Int32) : wr w 11 x v = some (rW w 1 (upd g (61 + 3 * i) v)) := hR.wr_met hi hx v
theorem RC.a_rd_spots (hR : RC w 1 g) {i : Nat} (hi : i < 10) {x : Int32} (hx : x = nI i) : rd w 12 x = some (g (77 + i)) := hR.rd_spots hi hx
theorem RC.a_wr_spots (hR : RC w 1 g) {i : Nat} (hi : i < 10) {x : Int32} (hx : x = nI i) (v : Int32) : wr w 12 x v = some (rW w 1 (upd g (77 + i) v)) := hR.wr_spots hi hx v
theorem RC.b_gr5 (hR : RC w 13 g) : gr w 13 2 5 = some 14 := hR.gr5
theorem RC.b_gr6 (hR : RC w 13 g) : gr w 13 2 6 = some 15 := hR.gr6
theorem RC.b_gr7 (hR : RC w 13 g) : gr w 13 2 7 = some 16 := hR.gr7
theorem RC.b_gr8 (hR : RC w 13 g) : gr w 13 2 8 = some 17 := hR.gr8
theorem RC.b_gr9 (hR : RC w 13 g) : gr w 13 2 9 = some 18 := hR.gr9
theorem RC.b_gr10 (hR : RC w 13 g) : gr w 13 2 10 = some 19 := hR.gr10
theorem RC.b_gr11 (hR : RC w 13 g) : gr w 13 2 11 = some 20 := hR.gr11
theorem RC.b_gr12 (hR : RC w 13 g) : gr w 13 2 12 = some 21 := hR.gr12
theorem RC.b_gr13 (hR : RC w 13 g) : gr w 13 2 13 = some 22 := hR.gr13
theorem RC.b_gr14 (hR : RC w 13 g) : gr w 13 2 14 = some 23 := hR.gr14
theorem RC.b_gr15 (hR : RC w 13 g) : gr w 13 2 15 = some 24 := hR.gr15
theorem RC.b_rd_list (hR : RC w 13 g) {i : Nat} (hi : i < 6) {x : Int32} (hx : x = nI i) : rd w 14 x = some (g (5 + i)) := hR.rd_list hi hx
theorem RC.b_wr_list (hR : RC w 13 g) {i : Nat} (hi : i < 6) {x : Int32} (hx : x = nI i) (v : Int32) : wr w 14 x v = some (rW w 13 (upd g (5 + i) v)) := hR.wr_list hi hx v
theorem RC.b_rd_kind (hR : RC w 13 g) {i : Nat} (hi : i < 8) {x : Int32} (hx : x = nI i) : rd w 15 x = some (g (11 + 6 * i)) := hR.rd_kind hi hx
theorem RC.b_wr_kind (hR : RC w 13 g) {i : Nat} (hi : i < 8) {x : Int32} (hx : x = nI i) (v : Int32) : wr w 15 x v = some (rW w 13 (upd g (11 + 6 * i) v)) := hR.wr_kind hi hx v
theorem RC.b_rd_hanger (hR : RC w 13 g) {i : Nat} (hi : i < 8) {x : Int32} (hx : x = nI i) : rd w 16 x = some (g (12 + 6 * i)) := hR.rd_hanger hi hx
theorem RC.b_wr_hanger (hR : RC w 13 g) {i : Nat} (hi : i < 8) {x : Int32} (hx : x = nI i) (v : Int32) : wr w 16 x v = some (rW w 13 (upd g (12 + 6 * i) v)) := hR.wr_hanger hi hx v
theorem RC.b_rd_stub (hR : RC w 13 g) {i : Nat} (hi : i < 8) {x : Int32} (hx : x = nI i) : rd w 17 x = some (g (13 + 6 * i)) := hR.rd_stub hi hx
theorem RC.b_wr_stub (hR : RC w 13 g) {i : Nat} (hi : i < 8) {x : Int32} (hx : x = nI i) (v : Int32) : wr w 17 x v = some (rW w 13 (upd g (13 + 6 * i) v)) := hR.wr_stub hi hx v
theorem RC.b_rd_kept (hR : RC w 13 g) {i : Nat} (hi : i < 8) {x : Int32} (hx : x = nI i) : rd w 18 x = some (g (14 + 6 * i)) := hR.rd_kept hi hx
theorem RC.b_wr_kept (hR : RC w 13 g) {i : Nat} (hi : i < 8) {x : Int32} (hx : x = nI i) (v : Int32) : wr w 18 x v = some (rW w 13 (upd g (14 + 6 * i) v)) := hR.wr_kept hi hx v
theorem RC.b_rd_worn (hR : RC w 13 g) {i : Nat} (hi : i < 8) {x : Int32} (hx : x = nI i) : rd w 19 x = some (g (15 + 6 * i)) := hR.rd_worn hi hx
theorem RC.b_wr_worn (hR : RC w 13 g) {i : Nat} (hi : i < 8) {x : Int32} (hx : x = nI i) (v : Int32) : wr w 19 x v = some (rW w 13 (upd g (15 + 6 * i) v)) := hR.wr_worn hi hx v
theorem RC.b_rd_out (hR : RC w 13 g) {i : Nat} (hi : i < 8) {x : Int32} (hx : x = nI i) : rd w 20 x = some (g (16 + 6 * i)) := hR.rd_out hi hx
theorem RC.b_wr_out (hR : RC w 13 g) {i : Nat} (hi : i < 8) {x : Int32} (hx : x = nI i) (v : Int32) : wr w 20 x v = some (rW w 13 (upd g (16 + 6 * i) v)) := hR.wr_out hi hx v
theorem RC.b_rd_dream (hR : RC w 13 g) {i : Nat} (hi : i < 6) {x : Int32} (hx : x = nI i) : rd w 21 x = some (g (59 + 3 * i)) := hR.rd_dream hi hx
theorem RC.b_wr_dream (hR : RC w 13 g) {i : Nat} (hi : i < 6) {x : Int32} (hx : x = nI i) (v : Int32) : wr w 21 x v = some (rW w 13 (upd g (59 + 3 * i) v)) := hR.wr_dream hi hx v
theorem RC.b_rd_hope (hR : RC w 13 g) {i : Nat} (hi : i < 6) {x : Int32} (hx : x = nI i) : rd w 22 x = some (g (60 + 3 * i)) := hR.rd_hope hi hx
theorem RC.b_wr_hope (hR : RC w 13 g) {i : Nat} (hi : i < 6) {x : Int32} (hx : x = nI i) (v : Int32) : wr w 22 x v = some (rW w 13 (upd g (60 + 3 * i) v)) := hR.wr_hope hi hx v
theorem RC.b_rd_met (hR : RC w 13 g) {i : Nat} (hi : i < 6) {x : Int32} (hx : x = nI i) : rd w 23 x = some (g (61 + 3 * i)) := hR.rd_met hi hx
theorem RC.b_wr_met (hR : RC w 13 g) {i : Nat} (hi : i < 6) {x : Int32} (hx : x = nI i) (v : Int32) : wr w 23 x v = some (rW w 13 (upd g (61 + 3 * i) v)) := hR.wr_met hi hx v
theorem RC.b_rd_spots (hR : RC w 13 g) {i : Nat} (hi : i < 10) {x : Int32} (hx : x = nI i) : rd w 24 x = some (g (77 + i)) := hR.rd_spots hi hx
theorem RC.b_wr_spots (hR : RC w 13 g) {i : Nat} (hi : i < 10) {x : Int32} (hx : x = nI i) (v : Int32) : wr w 24 x v = some (rW w 13 (upd g (77 + i) v)) := hR.wr_spots hi hx v
theorem RC.c_gr5 (hR : RC w 25 g) : gr w 25 2 5 = some 26 := hR.gr5
theorem RC.c_gr6 (hR : RC w 25 g) : gr w 25 2 6 = some 27 := hR.gr6
theorem RC.c_gr7 (hR : RC w 25 g) : gr w 25 2 7 = some 28 := hR.gr7
theorem RC.c_gr8 (hR : RC w 25 g) : gr w 25 2 8 = some 29 := hR.gr8
theorem RC.c_gr9 (hR : RC w 25 g) : gr w 25 2 9 = some 30 := hR.gr9
theorem RC.c_gr10 (hR : RC w 25 g) : gr w 25 2 10 = some 31 := hR.gr10
theorem RC.c_gr11 (hR : RC w 25 g) : gr w 25 2 11 = some 32 := hR.gr11
theorem RC.c_gr12 (hR : RC w 25 g) : gr w 25 2 12 = some 33 := hR.gr12
theorem RC.c_gr13 (hR : RC w 25 g) : gr w 25 2 13 = some 34 := hR.gr13
theorem RC.c_gr14 (hR : RC w 25 g) : gr w 25 2 14 = some 35 := hR.gr14
theorem RC.c_gr15 (hR : RC w 25 g) : gr w 25 2 15 = some 36 := hR.gr15
theorem RC.c_rd_list (hR : RC w 25 g) {i : Nat} (hi : i < 6) {x : Int32} (hx : x = nI i) : rd w 26 x = some (g (5 + i)) := hR.rd_list hi hx
theorem RC.c_wr_list (hR : RC w 25 g) {i : Nat} (hi : i < 6) {x : Int32} (hx : x = nI i) (v : Int32) : wr w 26 x v = some (rW w 25 (upd g (5 + i) v)) := hR.wr_list hi hx v
theorem RC.c_rd_kind (hR : RC w 25 g) {i : Nat} (hi : i < 8) {x : Int32} (hx : x = nI i) : rd w 27 x = some (g (11 + 6 * i)) := hR.rd_kind hi hx
theorem RC.c_wr_kind (hR : RC w 25 g) {i : Nat} (hi : i < 8) {x : Int32} (hx : x = nI i) (v : Int32) : wr w 27 x v = some (rW w 25 (upd g (11 + 6 * i) v)) := hR.wr_kind hi hx v
theorem RC.c_rd_hanger (hR : RC w 25 g) {i : Nat} (hi : i < 8) {x : Int32} (hx : x = nI i) : rd w 28 x = some (g (12 + 6 * i)) := hR.rd_hanger hi hx
theorem RC.c_wr_hanger (hR : RC w 25 g) {i : Nat} (hi : i < 8) {x : Int32} (hx : x = nI i) (v : Int32) : wr w 28 x v = some (rW w 25 (upd g (12 + 6 * i) v)) := hR.wr_hanger hi hx v
theorem RC.c_rd_stub (hR : RC w 25 g) {i : Nat} (hi : i < 8) {x : Int32} (hx : x = nI i) : rd w 29 x = some (g (13 + 6 * i)) := hR.rd_stub hi hx
theorem RC.c_wr_stub (hR : RC w 25 g) {i : Nat} (hi : i < 8) {x : Int32} (hx : x = nI i) (v : Int32) : wr w 29 x v = some (rW w 25 (upd g (13 + 6 * i) v)) := hR.wr_stub hi hx v
theorem RC.c_rd_kept (hR : RC w 25 g) {i : Nat} (hi : i < 8) {x : Int32} (hx : x = nI i) : rd w 30 x = some (g (14 + 6 * i)) := hR.rd_kept hi hx
theorem RC.c_wr_kept (hR : RC w 25 g) {i : Nat} (hi : i < 8) {x : Int32} (hx : x = nI i) (v : Int32) : wr w 30 x v = some (rW w 25 (upd g (14 + 6 * i) v)) := hR.wr_kept hi hx v
theorem RC.c_rd_worn (hR : RC w 25 g) {i : Nat} (hi : i < 8) {x : Int32} (hx : x = nI i) : rd w 31 x = some (g (15 + 6 * i)) := hR.rd_worn hi hx
theorem RC.c_wr_worn (hR : RC w 25 g) {i : Nat} (hi : i < 8) {x : Int32} (hx : x = nI i) (v : Int32) : wr w 31 x v = some (rW w 25 (upd g (15 + 6 * i) v)) := hR.wr_worn hi hx v
theorem RC.c_rd_out (hR : RC w 25 g) {i : Nat} (hi : i < 8) {x : Int32} (hx : x = nI i) : rd w 32 x = some (g (16 + 6 * i)) := hR.rd_out hi hx
theorem RC.c_wr_out (hR : RC w 25 g) {i : Nat} (hi : i < 8) {x : Int32} (hx : x = nI i) (v : Int32) : wr w 32 x v = some (rW w 25 (upd g (16 + 6 * i) v)) := hR.wr_out hi hx v
theorem RC.c_rd_dream (hR : RC w 25 g) {i : Nat} (hi : i < 6) {x : Int32} (hx : x = nI i) : rd w 33 x = some (g (59 + 3 * i)) := hR.rd_dream hi hx
theorem RC.c_wr_dream (hR : RC w 25 g) {i : Nat} (hi : i < 6) {x : Int32} (hx : x = nI i) (v : Int32) : wr w 33 x v = some (rW w 25 (upd g (59 + 3 * i) v)) := hR.wr_dream hi hx v
theorem RC.c_rd_hope (hR : RC w 25 g) {i : Nat} (hi : i < 6) {x : Int32} (hx : x = nI i) : rd w 34 x = some (g (60 + 3 * i)) := hR.rd_hope hi hx
theorem RC.c_wr_hope (hR : RC w 25 g) {i : Nat} (hi : i < 6) {x : Int32} (hx : x = nI i) (v : Int32) : wr w 34 x v = some (rW w 25 (upd g (60 + 3 * i) v)) := hR.wr_hope hi hx v
theorem RC.c_rd_met (hR : RC w 25 g) {i : Nat} (hi : i < 6) {x : Int32} (hx : x = nI i) : rd w 35 x = some (g (61 + 3 * i)) := hR.rd_met hi hx
theorem RC.c_wr_met (hR : RC w 25 g) {i : Nat} (hi : i < 6) {x : Int32} (hx : x = nI i) (v : Int32) : wr w 35 x v = some (rW w 25 (upd g (61 + 3 * i) v)) := hR.wr_met hi hx v
theorem RC.c_rd_spots (hR : RC w 25 g) {i : Nat} (hi : i < 10) {x : Int32} (hx : x = nI i) : rd w 36 x = some (g (77 + i)) := hR.rd_spots hi hx
theorem RC.c_wr_spots (hR : RC w 25 g) {i : Nat} (hi : i < 10) {x : Int32} (hx : x = nI i) (v : Int32) : wr w 36 x v = some (rW w 25 (upd g (77 + i) v)) := hR.wr_spots hi hx v
end RNM

theorem st1 : St1 Rel := by
  intro a1 w ⟨h, s, g2, g3, q, R, G⟩
  by_cases c : 0 ≤ a1 ∧ a1 ≤ 5
  · obtain ⟨k, -, hk, rfl⟩ := btw (m := 0) (n := 5) rfl rfl (by omega) (by omega) c
    refine SP_id R G (r1 := h 0 (5 + k)) (r2 := h 0 (5 + k)) ?_ ?_ rfl
    · unfold F_K_listed F_K_listed_0 F_K_listed_26
      simp only [K_within, Option.bind_some, bI_0]
      rw [if_neg (fun z => z c)]
      simp only [R.kg0, Option.bind_some, R.2.2.1.a_gr5, R.2.2.1.a_rd_list (i := k) (by omega) rfl]
    · unfold F_M_listed F_M_listed_0 F_M_listed_24
      simp only [M_isPlace, Option.bind_some, bI_0]
      rw [if_neg (fun z => z c)]
      simp only [R.1.gr0, Option.bind_some, R.1.rd0 (i := 5 + k) (by omega) (n5 rfl)]
  · refine SP_fd R G (i := 0) (r1 := (-1000001) - 0) (r2 := (-1000001)) ?_ (fun M => ?_) (by decide)
    · unfold F_K_listed F_K_listed_0 F_K_listed_26
      simp only [K_within, Option.bind_some, bI_0]
      rw [if_pos c]
      simp only [R.kob, Option.bind_some, K_finding R (i := 0) (x := 0) (by omega) rfl]
    · unfold F_M_listed F_M_listed_0 F_M_listed_24
      simp only [M_isPlace, Option.bind_some, bI_0]
      rw [if_pos c]
      simp only [M.ob_, Option.bind_some, M_finds M (i := 0) (v := -1000001) (by omega) (by decide)]
theorem K_standOf (x y : Int32) (w : A_W) : F_K_standOf x y w = some ((100 * x) + y, w) := by
  unfold F_K_standOf F_K_standOf_0
  first | rfl | (congr 2; rw [Int32.mul_comm])
theorem M_becomes {w : A_W} {h : Nat → Nat → Int32} {s : Nat → Int32} (hM : MM w h s) {i : Nat} (hi : i < 87) {x : Int32} (hx : x = nI i) (v : Int32) : F_M_becomes 49 x v w = some (h 0 i, mW w 0 (upd (h 0) i v)) := by
  unfold F_M_becomes F_M_becomes_0
  simp only [hM.gr0, Option.bind_some, hM.rd0 hi hx, hM.wr0 hi hx]
theorem st0 : St0 Rel := by
  intro a1 a2 a3 w ⟨h, s, g2, g3, q, R, G⟩
  by_cases c1 : 0 ≤ a1 ∧ a1 ≤ 5
  · by_cases c2 : 0 ≤ a2 ∧ a2 ≤ 5
    · by_cases c3 : 0 ≤ a3 ∧ a3 ≤ 15
      · obtain ⟨k, -, hk, rfl⟩ := btw (m := 0) (n := 5) rfl rfl (by omega) (by omega) c1
        obtain ⟨l, -, hl, rfl⟩ := btw (m := 0) (n := 5) rfl rfl (by omega) (by omega) c2
        obtain ⟨j, -, hj, rfl⟩ := btw (m := 0) (n := 15) rfl rfl (by omega) (by omega) c3
        have e : (100 : Int32) * nI l + nI j = nI (100 * l + j) := by rw [show (100 : Int32) * nI l = nI (100 * l) from pk_mul 100 l, nI_add]
        refine SP_row R G (f := upd (h 0) (5 + k) (nI (100 * l + j))) ?_ (r1 := h 0 (5 + k)) (r2 := h 0 (5 + k)) ?_ (fun M => ?_) rfl
        · refine Wf_upd G.1 (by omega) (by omega) (fun _ => ?_) (fun _ _ => ?_)
          · rw [hiB_li k (by omega), nI_toInt (by omega)]; omega
          · rw [nI_toInt (by omega)]; omega
        · unfold F_K_stand F_K_stand_0
          simp only [K_within, K_isHanger, Option.bind_some, bI_0]
          rw [if_neg (fun z => z c1), if_neg (fun z => z c2), if_neg (fun z => z c3)]
          simp only [R.kg0, Option.bind_some, R.2.2.1.a_gr5, R.2.2.1.a_rd_list (i := k) (by omega) rfl, K_standOf, R.2.2.1.a_wr_list (i := k) (by omega) rfl, e]
        · unfold F_M_stand F_M_stand_0 F_M_stand_45
          simp only [M_isPlace, M_in, M_isHanger, Option.bind_some, bI_0]
          rw [if_neg (fun z => z c1), if_neg (fun z => z c2), if_neg (fun z => z c3)]
          simp only [M.ob_, Option.bind_some, M_becomes M (i := 5 + k) (by omega) (n5 rfl), e]
      · refine SP_fd R G (i := 0) (r1 := (-1000001) - 0) (r2 := (-1000001)) ?_ (fun M => ?_) (by decide)
        · unfold F_K_stand F_K_stand_0 F_K_stand_25
          simp only [K_within, K_isHanger, Option.bind_some, bI_0]
          rw [if_neg (fun z => z c1), if_neg (fun z => z c2), if_pos c3]
          simp only [R.kob, Option.bind_some, K_finding R (i := 0) (x := 0) (by omega) rfl]
        · unfold F_M_stand F_M_stand_0 F_M_stand_39 F_M_stand_45
          simp only [M_isPlace, M_in, M_isHanger, Option.bind_some, bI_0]
          rw [if_neg (fun z => z c1), if_neg (fun z => z c2), if_pos c3]
          simp only [M.ob_, Option.bind_some, M_finds M (i := 0) (v := -1000001) (by omega) (by decide)]
    · refine SP_fd R G (i := 0) (r1 := (-1000001) - 0) (r2 := (-1000001)) ?_ (fun M => ?_) (by decide)
      · unfold F_K_stand F_K_stand_0 F_K_stand_25
        simp only [K_within, K_isHanger, Option.bind_some, bI_0]
        rw [if_neg (fun z => z c1), if_pos c2]
        simp only [R.kob, Option.bind_some, K_finding R (i := 0) (x := 0) (by omega) rfl]
      · unfold F_M_stand F_M_stand_0 F_M_stand_39 F_M_stand_45
        simp only [M_isPlace, M_in, M_isHanger, Option.bind_some, bI_0]
        rw [if_neg (fun z => z c1), if_pos c2]
        simp only [M.ob_, Option.bind_some, M_finds M (i := 0) (v := -1000001) (by omega) (by decide)]
  · refine SP_fd R G (i := 0) (r1 := (-1000001) - 0) (r2 := (-1000001)) ?_ (fun M => ?_) (by decide)
    · unfold F_K_stand F_K_stand_0 F_K_stand_25
      simp only [K_within, K_isHanger, Option.bind_some, bI_0]
      rw [if_pos c1]
      simp only [R.kob, Option.bind_some, K_finding R (i := 0) (x := 0) (by omega) rfl]
    · unfold F_M_stand F_M_stand_0 F_M_stand_39 F_M_stand_45
      simp only [M_isPlace, M_in, M_isHanger, Option.bind_some, bI_0]
      rw [if_pos c1]
      simp only [M.ob_, Option.bind_some, M_finds M (i := 0) (v := -1000001) (by omega) (by decide)]
