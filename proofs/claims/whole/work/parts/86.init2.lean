theorem nO_w {w : A_W} {e : A_E} (h : w.length < 1000000) : nO w e = some (w ++ [e]) := if_pos h
theorem R_init_t {w : A_W} {t : Nat} (ht : t = w.length) (hw : w.length < 900000) : F_R_init t (w ++ [.inr (.inr (2, [.int 0, .int 0, .int 0, .int 0, .int 0, .null, .null, .null, .null, .null, .null, .null, .null, .null, .null, .null]))]) = some (w ++ rmA t) := by
  subst ht; exact R_init hw
theorem pf_0 {l : A_W} {ci k : Nat} {v : Value} {fs : List Value} (h : k < fs.length) : pf ((.inr (.inr (ci, fs))) :: l) 0 ci k v = some ((.inr (.inr (ci, fs.set k v))) :: l) := pf_a (w := []) rfl h
def shF : Nat → Option Nat := va_up (va_up (va_up (va_up (fun _ => none) 0 (some 41)) 1 (some 43)) 2 (some 45)) 3 (some 47)
def w9K : A_W := .inr (.inr (0, [.ref 1, .ref 13, .ref 25, .int 0, .null, .null, .null])) :: (rmA 1 ++ (rmA 13 ++ rmA 25))
def tlK : A_W := [.inr (.inr (1, [.ref 38, .int 0, .int 0, .int 0, .int 0, .int 0])), .inl (120, fun _ => 0), .inr (.inl (4, shF)), .inl (7, fun _ => 0), .inr (.inr (3, [.int 0, .int 0, .ref 42])), .inl (40, fun _ => 0), .inr (.inr (3, [.int 0, .int 0, .ref 44])), .inl (40, fun _ => 0), .inr (.inr (3, [.int 0, .int 0, .ref 46])), .inl (40, fun _ => 0), .inr (.inr (3, [.int 0, .int 0, .ref 48])), .inl (40, fun _ => 0)]
def wK : A_W := kobj 0 :: (rmA 1 ++ (rmA 13 ++ (rmA 25 ++ tlK)))
set_option maxRecDepth 100000 in
set_option maxHeartbeats 4000000 in
theorem K_init : F_K_init 0 [blK] = some wK := by
  have a1 : nO [blK] (.inr (.inr (2, [.int 0, .int 0, .int 0, .int 0, .int 0, .null, .null, .null, .null, .null, .null, .null, .null, .null, .null, .null]))) = some ([blK] ++ [.inr (.inr (2, [.int 0, .int 0, .int 0, .int 0, .int 0, .null, .null, .null, .null, .null, .null, .null, .null, .null, .null, .null]))]) := nO_w (Nat.le_of_ble_eq_true rfl)
  unfold F_K_init
  rw [a1, Option.bind_some, R_init_t rfl (Nat.le_of_ble_eq_true rfl), Option.bind_some]
  have a2 : pf ([blK] ++ rmA [blK].length) 0 0 0 (.ref [blK].length) = some (.inr (.inr (0, [.ref 1, .null, .null, .int 0, .null, .null, .null])) :: rmA 1) := rfl
  rw [a2, Option.bind_some, nO_w (Nat.le_of_ble_eq_true rfl), Option.bind_some, R_init_t rfl (Nat.le_of_ble_eq_true rfl), Option.bind_some]
  have a3 : pf ((.inr (.inr (0, [.ref 1, .null, .null, .int 0, .null, .null, .null])) :: rmA 1) ++ rmA (List.length (.inr (.inr (0, [.ref 1, .null, .null, .int 0, .null, .null, .null])) :: rmA 1))) 0 0 1 (.ref (List.length (.inr (.inr (0, [.ref 1, .null, .null, .int 0, .null, .null, .null])) :: rmA 1))) = some (.inr (.inr (0, [.ref 1, .ref 13, .null, .int 0, .null, .null, .null])) :: (rmA 1 ++ rmA 13)) := rfl
  rw [a3, Option.bind_some, nO_w (Nat.le_of_ble_eq_true rfl), Option.bind_some, R_init_t rfl (Nat.le_of_ble_eq_true rfl), Option.bind_some]
  have a4 : pf ((.inr (.inr (0, [.ref 1, .ref 13, .null, .int 0, .null, .null, .null])) :: (rmA 1 ++ rmA 13)) ++ rmA (List.length (.inr (.inr (0, [.ref 1, .ref 13, .null, .int 0, .null, .null, .null])) :: (rmA 1 ++ rmA 13)))) 0 0 2 (.ref (List.length (.inr (.inr (0, [.ref 1, .ref 13, .null, .int 0, .null, .null, .null])) :: (rmA 1 ++ rmA 13)))) = some w9K := rfl
  rw [a4, Option.bind_some]
  rfl
theorem wK_len : wK.length = 49 := rfl
