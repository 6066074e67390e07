def n_ad (q0 q1 : Nat) (u1 u2 : Nat → Nat) : Nat → Nat := fun k => ([q0, u1 29, u1 2, u1 135, u1 132, u1 0, u1 28, u1 27, u1 1, u1 134, u1 133, u1 122, u1 121, u1 120, u1 119, u1 116, u1 113, u1 110, u1 107, u1 104, u1 101, u1 98, u1 95, u1 92, u1 89, u1 86, u1 118, u1 115, u1 112, u1 109, u1 106, u1 103, u1 100, u1 97, u1 94, u1 91, u1 88, u1 85, u1 117, u1 114, u1 111, u1 108, u1 105, u1 102, u1 99, u1 96, u1 93, u1 90, u1 87, u1 84, u1 83, u1 74, u1 65, u1 56, u1 47, u1 38, u1 82, u1 73, u1 64, u1 55, u1 46, u1 37, u1 81, u1 72, u1 63, u1 54, u1 45, u1 36, u1 80, u1 71, u1 62, u1 53, u1 44, u1 35, u1 79, u1 70, u1 61, u1 52, u1 43, u1 34, u1 127, u1 78, u1 69, u1 60, u1 51, u1 42, u1 33, u1 126, u1 75, u1 66, u1 57, u1 48, u1 39, u1 30, u1 123, u1 131, u1 129, u1 77, u1 68, u1 59, u1 50, u1 41, u1 32, u1 125, u1 76, u1 67, u1 58, u1 49, u1 40, u1 31, u1 124, u1 130, u1 128, u1 17, u1 14, u1 11, u1 8, u1 5, u1 26, u1 23, u1 20, u1 16, u1 13, u1 10, u1 7, u1 4, u1 25, u1 22, u1 19, u1 15, u1 12, u1 9, u1 6, u1 3, u1 24, u1 21, u1 18, q1, u2 26, u2 25, u2 24, u2 23, u2 22, u2 21, u2 20, u2 19, u2 18, u2 17, u2 16, u2 15, u2 14, u2 13, u2 12, u2 11, u2 10, u2 9, u2 8, u2 7, u2 6, u2 5, u2 4, u2 3, u2 2, u2 1, u2 0] : List Nat).getD k 0
def n_mu : q_M := (fun a => if a = 3 then (fun j => if j = 0 then 1 else if j = 1 then 1 else 0) else if a = 137 then (fun j => if j = 22 then 1 else if j = 23 then 1 else 0) else if 14 ≤ a ∧ a < 26 then (fun j => if j = 6 then (-1) else 0) else (fun _ => 0), fun a => if 104 ≤ a ∧ a < 111 then n_one else (fun _ => 0))
theorem n_refs {cA : ClassId} {n : Nat} {f g : Nat → Option Nat} (h : ∀ j, j < n → f j = g j) : vp_cell cA (n, .inr (.inr (.inr (.inr f)))) = vp_cell cA (n, .inr (.inr (.inr (.inr g)))) := by
  simp only [vp_cell, arrV]
  congr 1
  apply Array.ext
  · simp
  · intro i h1 h2
    simp at h1 h2 ⊢
    rw [h i h1]
theorem n_P_set {D : va_G} {cl : List vw_C} {ws : va_W} {H : Heap} {k : Nat} {x : Nat × va_E} (h : va_P D cl ws H) (hx : va_at D cl x H) : va_P D cl (ws.set k x) H := by
  rw [n_P_iff] at h ⊢
  intro q hq
  rcases List.mem_or_eq_of_mem_set hq with g | g
  · exact h q g
  · rw [g]; exact hx
def n_W (aC : Nat → ClassId) (q0 q1 : Nat) (u1 u2 : Nat → Nat) : va_W := [((u2 0), .inl (aC 0, 13, .inl (fun _ => 0))), ((u2 1), .inl (aC 0, 13, .inl (fun _ => 0))), ((u2 2), .inl (aC 2, 12, .inl (fun _ => 0))), ((u2 3), .inl (aC 0, 12, .inl (fun _ => 0))), ((u2 4), .inl (aC 2, 7, .inl (fun _ => 0))), ((u2 5), .inl (aC 0, 12, .inl (fun _ => 0))), ((u2 6), .inl (aC 0, 50, .inl (fun _ => 0))), ((u2 7), .inl (aC 0, 5, .inl (fun _ => 0))), ((u2 8), .inl (aC 0, 60, .inl (fun _ => 0))), ((u2 9), .inl (aC 0, 5, .inl (fun _ => 0))), ((u2 10), .inl (aC 0, 5, .inl (fun _ => 0))), ((u2 11), .inl (aC 0, 36, .inl (fun _ => 0))), ((u2 12), .inl (aC 0, 36, .inl (fun _ => 0))), ((u2 13), .inl (aC 0, 36, .inl (fun _ => 0))), ((u2 14), .inl (aC 0, 6, .inl (fun _ => 0))), ((u2 15), .inl (aC 2, 6, .inl (fun _ => 0))), ((u2 16), .inl (aC 2, 144, .inl (fun _ => 0))), ((u2 17), .inl (aC 0, 36, .inl (fun _ => 0))), ((u2 18), .inl (aC 0, 36, .inl (fun _ => 0))), ((u2 19), .inl (aC 0, 12, .inl (fun _ => 0))), ((u2 20), .inl (aC 0, 12, .inl (fun _ => 0))), ((u2 21), .inl (aC 2, 12, .inl (fun _ => 0))), ((u2 22), .inl (aC 0, 12, .inl (fun _ => 0))), ((u2 23), .inl (aC 0, 12, .inl (fun _ => 0))), ((u2 24), .inl (aC 0, 12, .inl (fun _ => 0))), ((u2 25), .inl (aC 0, 12, .inl (fun _ => 0))), ((u2 26), .inl (aC 0, 12, .inl (fun _ => 0))), (q1, .inr (10, [.int 0, .int 0, .ref (u2 26), .ref (u2 25), .ref (u2 24), .ref (u2 23), .ref (u2 22), .ref (u2 21), .ref (u2 20), .ref (u2 19), .ref (u2 18), .ref (u2 17), .ref (u2 16), .int 0, .ref (u2 15), .ref (u2 14), .ref (u2 13), .ref (u2 12), .ref (u2 11), .int 0, .ref (u2 10), .ref (u2 9), .int 1, .int 1, .int 0, .int 0, .int 0, .int 0, .int 0, .ref (u2 8), .ref (u2 7), .int 0, .ref (u2 6), .ref (u2 5), .int 0, .ref (u2 4), .ref (u2 3), .int 0, .int 0, .int 0, .int 0, .long 0, .long 0, .long 0, .long 0, .long 0, .long 0, .long 0, .long 0, .long 0, .long 0, .ref (u2 2), .ref (u2 1), .ref (u2 0)]))] ++ [((u1 0), .inl (aC 0, 50, .inl (fun _ => 0))), (q0, .inr (9, [.ref (u1 29), .ref (u1 2), .ref (u1 0), .int 0])), ((u1 1), .inl (aC 5, 5, .inr (.inr (.inr (.inr (va_up (va_up (va_up (va_up (va_up (fun _ => none) 0 (some (u1 17))) 1 (some (u1 14))) 2 (some (u1 11))) 3 (some (u1 8))) 4 (some (u1 5)))))))), ((u1 2), .inr (1, [.ref (u1 29), .ref (u1 1), .ref (u1 26), .ref (u1 23), .ref (u1 20), .int 0, .int 0, .int 0, .int 0, .int 0, .int 0, .int 0, .int 0, .int 0, .int 0])), ((u1 3), .inl (aC 0, 6, .inl (fun _ => 0))), ((u1 4), .inl (aC 0, 6, .inl (fun _ => 0))), ((u1 5), .inr (7, [.ref (u1 4), .ref (u1 3), .int 0, .int 0, .int 0, .int 0])), ((u1 6), .inl (aC 0, 6, .inl (fun _ => 0))), ((u1 7), .inl (aC 0, 6, .inl (fun _ => 0))), ((u1 8), .inr (7, [.ref (u1 7), .ref (u1 6), .int 0, .int 0, .int 0, .int 0])), ((u1 9), .inl (aC 0, 6, .inl (fun _ => 0))), ((u1 10), .inl (aC 0, 6, .inl (fun _ => 0))), ((u1 11), .inr (7, [.ref (u1 10), .ref (u1 9), .int 0, .int 0, .int 0, .int 0])), ((u1 12), .inl (aC 0, 6, .inl (fun _ => 0))), ((u1 13), .inl (aC 0, 6, .inl (fun _ => 0))), ((u1 14), .inr (7, [.ref (u1 13), .ref (u1 12), .int 0, .int 0, .int 0, .int 0])), ((u1 15), .inl (aC 0, 6, .inl (fun _ => 0))), ((u1 16), .inl (aC 0, 6, .inl (fun _ => 0))), ((u1 17), .inr (7, [.ref (u1 16), .ref (u1 15), .int 0, .int 0, .int 0, .int 0])), ((u1 18), .inl (aC 0, 6, .inl (fun _ => 0))), ((u1 19), .inl (aC 0, 6, .inl (fun _ => 0))), ((u1 20), .inr (7, [.ref (u1 19), .ref (u1 18), .int 0, .int 0, .int 0, .int 0])), ((u1 21), .inl (aC 0, 6, .inl (fun _ => 0))), ((u1 22), .inl (aC 0, 6, .inl (fun _ => 0))), ((u1 23), .inr (7, [.ref (u1 22), .ref (u1 21), .int 0, .int 0, .int 0, .int 0])), ((u1 24), .inl (aC 0, 6, .inl (fun _ => 0))), ((u1 25), .inl (aC 0, 6, .inl (fun _ => 0))), ((u1 26), .inr (7, [.ref (u1 25), .ref (u1 24), .int 0, .int 0, .int 0, .int 0])), ((u1 27), .inl (aC 4, 6, .inr (.inr (.inr (.inr (va_up (va_up (va_up (va_up (va_up (va_up (fun _ => none) 0 (some (u1 83))) 1 (some (u1 74))) 2 (some (u1 65))) 3 (some (u1 56))) 4 (some (u1 47))) 5 (some (u1 38)))))))), ((u1 28), .inl (aC 3, 12, .inr (.inr (.inr (.inr (va_up (va_up (va_up (va_up (va_up (va_up (va_up (va_up (va_up (va_up (va_up (va_up (fun _ => none) 0 (some (u1 119))) 1 (some (u1 116))) 2 (some (u1 113))) 3 (some (u1 110))) 4 (some (u1 107))) 5 (some (u1 104))) 6 (some (u1 101))) 7 (some (u1 98))) 8 (some (u1 95))) 9 (some (u1 92))) 10 (some (u1 89))) 11 (some (u1 86)))))))), ((u1 29), .inr (3, [.int 0, .int 0, .int 0, .ref (u1 28), .ref (u1 27), .ref (u1 135), .ref (u1 132)])), ((u1 30), .inr (8, [.ref (u1 31)])), ((u1 31), .inl (aC 1, 4, .inr (.inl n_one))), ((u1 32), .inl (aC 1, 4, .inr (.inl (fun _ => 0)))), ((u1 33), .inr (8, [.ref (u1 32)])), ((u1 34), .inr (5, [.ref (u1 33), .ref (u1 30)])), ((u1 35), .inl (aC 1, 6, .inr (.inl (fun _ => 0)))), ((u1 36), .inl (aC 1, 6, .inr (.inl (fun _ => 0)))), ((u1 37), .inl (aC 1, 6, .inr (.inl (fun _ => 0)))), ((u1 38), .inr (0, [.int 0, .int 0, .ref (u1 37), .ref (u1 36), .ref (u1 35), .ref (u1 34), .int 0, .int 0])), ((u1 39), .inr (8, [.ref (u1 40)])), ((u1 40), .inl (aC 1, 4, .inr (.inl n_one))), ((u1 41), .inl (aC 1, 4, .inr (.inl (fun _ => 0)))), ((u1 42), .inr (8, [.ref (u1 41)])), ((u1 43), .inr (5, [.ref (u1 42), .ref (u1 39)])), ((u1 44), .inl (aC 1, 6, .inr (.inl (fun _ => 0)))), ((u1 45), .inl (aC 1, 6, .inr (.inl (fun _ => 0)))), ((u1 46), .inl (aC 1, 6, .inr (.inl (fun _ => 0)))), ((u1 47), .inr (0, [.int 0, .int 0, .ref (u1 46), .ref (u1 45), .ref (u1 44), .ref (u1 43), .int 0, .int 0])), ((u1 48), .inr (8, [.ref (u1 49)])), ((u1 49), .inl (aC 1, 4, .inr (.inl n_one))), ((u1 50), .inl (aC 1, 4, .inr (.inl (fun _ => 0)))), ((u1 51), .inr (8, [.ref (u1 50)])), ((u1 52), .inr (5, [.ref (u1 51), .ref (u1 48)])), ((u1 53), .inl (aC 1, 6, .inr (.inl (fun _ => 0)))), ((u1 54), .inl (aC 1, 6, .inr (.inl (fun _ => 0)))), ((u1 55), .inl (aC 1, 6, .inr (.inl (fun _ => 0)))), ((u1 56), .inr (0, [.int 0, .int 0, .ref (u1 55), .ref (u1 54), .ref (u1 53), .ref (u1 52), .int 0, .int 0])), ((u1 57), .inr (8, [.ref (u1 58)])), ((u1 58), .inl (aC 1, 4, .inr (.inl n_one))), ((u1 59), .inl (aC 1, 4, .inr (.inl (fun _ => 0)))), ((u1 60), .inr (8, [.ref (u1 59)])), ((u1 61), .inr (5, [.ref (u1 60), .ref (u1 57)])), ((u1 62), .inl (aC 1, 6, .inr (.inl (fun _ => 0)))), ((u1 63), .inl (aC 1, 6, .inr (.inl (fun _ => 0)))), ((u1 64), .inl (aC 1, 6, .inr (.inl (fun _ => 0)))), ((u1 65), .inr (0, [.int 0, .int 0, .ref (u1 64), .ref (u1 63), .ref (u1 62), .ref (u1 61), .int 0, .int 0])), ((u1 66), .inr (8, [.ref (u1 67)])), ((u1 67), .inl (aC 1, 4, .inr (.inl n_one))), ((u1 68), .inl (aC 1, 4, .inr (.inl (fun _ => 0)))), ((u1 69), .inr (8, [.ref (u1 68)])), ((u1 70), .inr (5, [.ref (u1 69), .ref (u1 66)])), ((u1 71), .inl (aC 1, 6, .inr (.inl (fun _ => 0)))), ((u1 72), .inl (aC 1, 6, .inr (.inl (fun _ => 0)))), ((u1 73), .inl (aC 1, 6, .inr (.inl (fun _ => 0)))), ((u1 74), .inr (0, [.int 0, .int 0, .ref (u1 73), .ref (u1 72), .ref (u1 71), .ref (u1 70), .int 0, .int 0])), ((u1 75), .inr (8, [.ref (u1 76)])), ((u1 76), .inl (aC 1, 4, .inr (.inl n_one))), ((u1 77), .inl (aC 1, 4, .inr (.inl (fun _ => 0)))), ((u1 78), .inr (8, [.ref (u1 77)])), ((u1 79), .inr (5, [.ref (u1 78), .ref (u1 75)])), ((u1 80), .inl (aC 1, 6, .inr (.inl (fun _ => 0)))), ((u1 81), .inl (aC 1, 6, .inr (.inl (fun _ => 0)))), ((u1 82), .inl (aC 1, 6, .inr (.inl (fun _ => 0)))), ((u1 83), .inr (0, [.int 0, .int 0, .ref (u1 82), .ref (u1 81), .ref (u1 80), .ref (u1 79), .int 0, .int 0])), ((u1 84), .inl (aC 0, 3, .inl (fun _ => 0))), ((u1 85), .inl (aC 0, 3, .inl (fun _ => 0))), ((u1 86), .inr (6, [.int 0, .int 0, .int 0, .int 0, .int 0, .int 0, .int (-1), .int 0, .int 0, .ref (u1 85), .ref (u1 84)])), ((u1 87), .inl (aC 0, 3, .inl (fun _ => 0))), ((u1 88), .inl (aC 0, 3, .inl (fun _ => 0))), ((u1 89), .inr (6, [.int 0, .int 0, .int 0, .int 0, .int 0, .int 0, .int (-1), .int 0, .int 0, .ref (u1 88), .ref (u1 87)])), ((u1 90), .inl (aC 0, 3, .inl (fun _ => 0))), ((u1 91), .inl (aC 0, 3, .inl (fun _ => 0))), ((u1 92), .inr (6, [.int 0, .int 0, .int 0, .int 0, .int 0, .int 0, .int (-1), .int 0, .int 0, .ref (u1 91), .ref (u1 90)])), ((u1 93), .inl (aC 0, 3, .inl (fun _ => 0))), ((u1 94), .inl (aC 0, 3, .inl (fun _ => 0))), ((u1 95), .inr (6, [.int 0, .int 0, .int 0, .int 0, .int 0, .int 0, .int (-1), .int 0, .int 0, .ref (u1 94), .ref (u1 93)])), ((u1 96), .inl (aC 0, 3, .inl (fun _ => 0))), ((u1 97), .inl (aC 0, 3, .inl (fun _ => 0))), ((u1 98), .inr (6, [.int 0, .int 0, .int 0, .int 0, .int 0, .int 0, .int (-1), .int 0, .int 0, .ref (u1 97), .ref (u1 96)])), ((u1 99), .inl (aC 0, 3, .inl (fun _ => 0))), ((u1 100), .inl (aC 0, 3, .inl (fun _ => 0))), ((u1 101), .inr (6, [.int 0, .int 0, .int 0, .int 0, .int 0, .int 0, .int (-1), .int 0, .int 0, .ref (u1 100), .ref (u1 99)])), ((u1 102), .inl (aC 0, 3, .inl (fun _ => 0))), ((u1 103), .inl (aC 0, 3, .inl (fun _ => 0))), ((u1 104), .inr (6, [.int 0, .int 0, .int 0, .int 0, .int 0, .int 0, .int (-1), .int 0, .int 0, .ref (u1 103), .ref (u1 102)])), ((u1 105), .inl (aC 0, 3, .inl (fun _ => 0))), ((u1 106), .inl (aC 0, 3, .inl (fun _ => 0))), ((u1 107), .inr (6, [.int 0, .int 0, .int 0, .int 0, .int 0, .int 0, .int (-1), .int 0, .int 0, .ref (u1 106), .ref (u1 105)])), ((u1 108), .inl (aC 0, 3, .inl (fun _ => 0))), ((u1 109), .inl (aC 0, 3, .inl (fun _ => 0))), ((u1 110), .inr (6, [.int 0, .int 0, .int 0, .int 0, .int 0, .int 0, .int (-1), .int 0, .int 0, .ref (u1 109), .ref (u1 108)])), ((u1 111), .inl (aC 0, 3, .inl (fun _ => 0))), ((u1 112), .inl (aC 0, 3, .inl (fun _ => 0))), ((u1 113), .inr (6, [.int 0, .int 0, .int 0, .int 0, .int 0, .int 0, .int (-1), .int 0, .int 0, .ref (u1 112), .ref (u1 111)])), ((u1 114), .inl (aC 0, 3, .inl (fun _ => 0))), ((u1 115), .inl (aC 0, 3, .inl (fun _ => 0))), ((u1 116), .inr (6, [.int 0, .int 0, .int 0, .int 0, .int 0, .int 0, .int (-1), .int 0, .int 0, .ref (u1 115), .ref (u1 114)])), ((u1 117), .inl (aC 0, 3, .inl (fun _ => 0))), ((u1 118), .inl (aC 0, 3, .inl (fun _ => 0))), ((u1 119), .inr (6, [.int 0, .int 0, .int 0, .int 0, .int 0, .int 0, .int (-1), .int 0, .int 0, .ref (u1 118), .ref (u1 117)])), ((u1 120), .inl (aC 1, 6, .inr (.inl (fun _ => 0)))), ((u1 121), .inl (aC 1, 6, .inr (.inl (fun _ => 0)))), ((u1 122), .inl (aC 1, 6, .inr (.inl (fun _ => 0)))), ((u1 123), .inr (8, [.ref (u1 124)])), ((u1 124), .inl (aC 1, 4, .inr (.inl n_one))), ((u1 125), .inl (aC 1, 4, .inr (.inl (fun _ => 0)))), ((u1 126), .inr (8, [.ref (u1 125)])), ((u1 127), .inr (5, [.ref (u1 126), .ref (u1 123)])), ((u1 128), .inl (aC 1, 4, .inr (.inl (fun _ => 0)))), ((u1 129), .inr (8, [.ref (u1 128)])), ((u1 130), .inl (aC 1, 4, .inr (.inl (fun _ => 0)))), ((u1 131), .inr (8, [.ref (u1 130)])), ((u1 132), .inr (4, [.ref (u1 131), .ref (u1 129), .ref (u1 127), .ref (u1 122), .ref (u1 121), .ref (u1 120), .long 0, .long 0])), ((u1 133), .inl (aC 1, 5, .inr (.inl (fun _ => 0)))), ((u1 134), .inl (aC 1, 5, .inr (.inl (fun _ => 0)))), ((u1 135), .inr (2, [.int 1, .int 1, .int 0, .ref (u1 134), .ref (u1 133)]))]
def n_pos (k : Nat) : Nat := ([29, 58, 31, 164, 161, 28, 57, 56, 30, 163, 162, 151, 150, 149, 148, 145, 142, 139, 136, 133, 130, 127, 124, 121, 118, 115, 147, 144, 141, 138, 135, 132, 129, 126, 123, 120, 117, 114, 146, 143, 140, 137, 134, 131, 128, 125, 122, 119, 116, 113, 112, 103, 94, 85, 76, 67, 111, 102, 93, 84, 75, 66, 110, 101, 92, 83, 74, 65, 109, 100, 91, 82, 73, 64, 108, 99, 90, 81, 72, 63, 156, 107, 98, 89, 80, 71, 62, 155, 104, 95, 86, 77, 68, 59, 152, 160, 158, 106, 97, 88, 79, 70, 61, 154, 105, 96, 87, 78, 69, 60, 153, 159, 157, 46, 43, 40, 37, 34, 55, 52, 49, 45, 42, 39, 36, 33, 54, 51, 48, 44, 41, 38, 35, 32, 53, 50, 47, 27, 26, 25, 24, 23, 22, 21, 20, 19, 18, 17, 16, 15, 14, 13, 12, 11, 10, 9, 8, 7, 6, 5, 4, 3, 2, 1, 0] : List Nat).getD k 0
theorem n_pos_inj : ∀ i, i < 165 → ∀ j, j < 165 → n_pos i = n_pos j → i = j := by decide +kernel
set_option maxRecDepth 20000 in
theorem n_e0 (aC : Nat → ClassId) (q0 q1 : Nat) (u1 u2 : Nat → Nat) : (n_W aC q0 q1 u1 u2)[n_pos 0]? = some (n_ad q0 q1 u1 u2 0, .inr (9, [.ref (u1 29), .ref (u1 2), .ref (u1 0), .int 0])) := rfl
set_option maxRecDepth 20000 in
theorem n_v0 (dC : Nat → ClassId) (dI : Nat → Nat → Nat) (aC : Nat → ClassId) (q0 q1 : Nat) (u1 u2 : Nat → Nat) {H : Heap} (hP : va_P (dC, dI) vwCl (n_W aC q0 q1 u1 u2) H) : va_at (dC, dI) vwCl (n_ad q0 q1 u1 u2 0, q_cl ((dC, dI, aC, n_ad q0 q1 u1 u2) : q_E) n_mu 0) H := by
  have h := hP _ _ (n_e0 aC q0 q1 u1 u2)
  rw [q_cl_o q_k0 (by decide)]
  exact h
set_option maxRecDepth 20000 in
theorem n_e1 (aC : Nat → ClassId) (q0 q1 : Nat) (u1 u2 : Nat → Nat) : (n_W aC q0 q1 u1 u2)[n_pos 1]? = some (n_ad q0 q1 u1 u2 1, .inr (3, [.int 0, .int 0, .int 0, .ref (u1 28), .ref (u1 27), .ref (u1 135), .ref (u1 132)])) := rfl
set_option maxRecDepth 20000 in
theorem n_v1 (dC : Nat → ClassId) (dI : Nat → Nat → Nat) (aC : Nat → ClassId) (q0 q1 : Nat) (u1 u2 : Nat → Nat) {H : Heap} (hP : va_P (dC, dI) vwCl (n_W aC q0 q1 u1 u2) H) : va_at (dC, dI) vwCl (n_ad q0 q1 u1 u2 1, q_cl ((dC, dI, aC, n_ad q0 q1 u1 u2) : q_E) n_mu 1) H := by
  have h := hP _ _ (n_e1 aC q0 q1 u1 u2)
  rw [q_cl_o q_k1 (by decide)]
  exact h
set_option maxRecDepth 20000 in
theorem n_e2 (aC : Nat → ClassId) (q0 q1 : Nat) (u1 u2 : Nat → Nat) : (n_W aC q0 q1 u1 u2)[n_pos 2]? = some (n_ad q0 q1 u1 u2 2, .inr (1, [.ref (u1 29), .ref (u1 1), .ref (u1 26), .ref (u1 23), .ref (u1 20), .int 0, .int 0, .int 0, .int 0, .int 0, .int 0, .int 0, .int 0, .int 0, .int 0])) := rfl
set_option maxRecDepth 20000 in
theorem n_v2 (dC : Nat → ClassId) (dI : Nat → Nat → Nat) (aC : Nat → ClassId) (q0 q1 : Nat) (u1 u2 : Nat → Nat) {H : Heap} (hP : va_P (dC, dI) vwCl (n_W aC q0 q1 u1 u2) H) : va_at (dC, dI) vwCl (n_ad q0 q1 u1 u2 2, q_cl ((dC, dI, aC, n_ad q0 q1 u1 u2) : q_E) n_mu 2) H := by
  have h := hP _ _ (n_e2 aC q0 q1 u1 u2)
  rw [q_cl_o q_k2 (by decide)]
  exact h
set_option maxRecDepth 20000 in
theorem n_e3 (aC : Nat → ClassId) (q0 q1 : Nat) (u1 u2 : Nat → Nat) : (n_W aC q0 q1 u1 u2)[n_pos 3]? = some (n_ad q0 q1 u1 u2 3, .inr (2, [.int 1, .int 1, .int 0, .ref (u1 134), .ref (u1 133)])) := rfl
set_option maxRecDepth 20000 in
theorem n_v3 (dC : Nat → ClassId) (dI : Nat → Nat → Nat) (aC : Nat → ClassId) (q0 q1 : Nat) (u1 u2 : Nat → Nat) {H : Heap} (hP : va_P (dC, dI) vwCl (n_W aC q0 q1 u1 u2) H) : va_at (dC, dI) vwCl (n_ad q0 q1 u1 u2 3, q_cl ((dC, dI, aC, n_ad q0 q1 u1 u2) : q_E) n_mu 3) H := by
  have h := hP _ _ (n_e3 aC q0 q1 u1 u2)
  rw [q_cl_o q_k3 (by decide)]
  exact h
set_option maxRecDepth 20000 in
theorem n_e4 (aC : Nat → ClassId) (q0 q1 : Nat) (u1 u2 : Nat → Nat) : (n_W aC q0 q1 u1 u2)[n_pos 4]? = some (n_ad q0 q1 u1 u2 4, .inr (4, [.ref (u1 131), .ref (u1 129), .ref (u1 127), .ref (u1 122), .ref (u1 121), .ref (u1 120), .long 0, .long 0])) := rfl
set_option maxRecDepth 20000 in
theorem n_v4 (dC : Nat → ClassId) (dI : Nat → Nat → Nat) (aC : Nat → ClassId) (q0 q1 : Nat) (u1 u2 : Nat → Nat) {H : Heap} (hP : va_P (dC, dI) vwCl (n_W aC q0 q1 u1 u2) H) : va_at (dC, dI) vwCl (n_ad q0 q1 u1 u2 4, q_cl ((dC, dI, aC, n_ad q0 q1 u1 u2) : q_E) n_mu 4) H := by
  have h := hP _ _ (n_e4 aC q0 q1 u1 u2)
  rw [q_cl_o q_k4 (by decide)]
  exact h
set_option maxRecDepth 20000 in
theorem n_e5 (aC : Nat → ClassId) (q0 q1 : Nat) (u1 u2 : Nat → Nat) : (n_W aC q0 q1 u1 u2)[n_pos 5]? = some (n_ad q0 q1 u1 u2 5, .inl (aC 0, 50, .inl (fun _ => 0))) := rfl
set_option maxRecDepth 20000 in
theorem n_v5 (dC : Nat → ClassId) (dI : Nat → Nat → Nat) (aC : Nat → ClassId) (q0 q1 : Nat) (u1 u2 : Nat → Nat) {H : Heap} (hP : va_P (dC, dI) vwCl (n_W aC q0 q1 u1 u2) H) : va_at (dC, dI) vwCl (n_ad q0 q1 u1 u2 5, q_cl ((dC, dI, aC, n_ad q0 q1 u1 u2) : q_E) n_mu 5) H := by
  have h := hP _ _ (n_e5 aC q0 q1 u1 u2)
  rw [q_cl_i q_k5 q_n5]
  exact h
set_option maxRecDepth 20000 in
theorem n_e6 (aC : Nat → ClassId) (q0 q1 : Nat) (u1 u2 : Nat → Nat) : (n_W aC q0 q1 u1 u2)[n_pos 6]? = some (n_ad q0 q1 u1 u2 6, .inl (aC 3, 12, .inr (.inr (.inr (.inr (va_up (va_up (va_up (va_up (va_up (va_up (va_up (va_up (va_up (va_up (va_up (va_up (fun _ => none) 0 (some (u1 119))) 1 (some (u1 116))) 2 (some (u1 113))) 3 (some (u1 110))) 4 (some (u1 107))) 5 (some (u1 104))) 6 (some (u1 101))) 7 (some (u1 98))) 8 (some (u1 95))) 9 (some (u1 92))) 10 (some (u1 89))) 11 (some (u1 86)))))))) := rfl
set_option maxRecDepth 20000 in
theorem n_v6 (dC : Nat → ClassId) (dI : Nat → Nat → Nat) (aC : Nat → ClassId) (q0 q1 : Nat) (u1 u2 : Nat → Nat) {H : Heap} (hP : va_P (dC, dI) vwCl (n_W aC q0 q1 u1 u2) H) : va_at (dC, dI) vwCl (n_ad q0 q1 u1 u2 6, q_cl ((dC, dI, aC, n_ad q0 q1 u1 u2) : q_E) n_mu 6) H := by
  have h := hP _ _ (n_e6 aC q0 q1 u1 u2)
  rw [q_cl_r (t := 0) q_k6 (by decide) q_n6]
  refine Eq.trans h (congrArg some (n_refs (fun j hj => ?_)))
  rcases (show j = 0 ∨ j = 1 ∨ j = 2 ∨ j = 3 ∨ j = 4 ∨ j = 5 ∨ j = 6 ∨ j = 7 ∨ j = 8 ∨ j = 9 ∨ j = 10 ∨ j = 11 by omega) with rfl | rfl | rfl | rfl | rfl | rfl | rfl | rfl | rfl | rfl | rfl | rfl <;> rfl
set_option maxRecDepth 20000 in
theorem n_e7 (aC : Nat → ClassId) (q0 q1 : Nat) (u1 u2 : Nat → Nat) : (n_W aC q0 q1 u1 u2)[n_pos 7]? = some (n_ad q0 q1 u1 u2 7, .inl (aC 4, 6, .inr (.inr (.inr (.inr (va_up (va_up (va_up (va_up (va_up (va_up (fun _ => none) 0 (some (u1 83))) 1 (some (u1 74))) 2 (some (u1 65))) 3 (some (u1 56))) 4 (some (u1 47))) 5 (some (u1 38)))))))) := rfl
set_option maxRecDepth 20000 in
theorem n_v7 (dC : Nat → ClassId) (dI : Nat → Nat → Nat) (aC : Nat → ClassId) (q0 q1 : Nat) (u1 u2 : Nat → Nat) {H : Heap} (hP : va_P (dC, dI) vwCl (n_W aC q0 q1 u1 u2) H) : va_at (dC, dI) vwCl (n_ad q0 q1 u1 u2 7, q_cl ((dC, dI, aC, n_ad q0 q1 u1 u2) : q_E) n_mu 7) H := by
  have h := hP _ _ (n_e7 aC q0 q1 u1 u2)
  rw [q_cl_r (t := 1) q_k7 (by decide) q_n7]
  refine Eq.trans h (congrArg some (n_refs (fun j hj => ?_)))
  rcases (show j = 0 ∨ j = 1 ∨ j = 2 ∨ j = 3 ∨ j = 4 ∨ j = 5 by omega) with rfl | rfl | rfl | rfl | rfl | rfl <;> rfl
set_option maxRecDepth 20000 in
theorem n_e8 (aC : Nat → ClassId) (q0 q1 : Nat) (u1 u2 : Nat → Nat) : (n_W aC q0 q1 u1 u2)[n_pos 8]? = some (n_ad q0 q1 u1 u2 8, .inl (aC 5, 5, .inr (.inr (.inr (.inr (va_up (va_up (va_up (va_up (va_up (fun _ => none) 0 (some (u1 17))) 1 (some (u1 14))) 2 (some (u1 11))) 3 (some (u1 8))) 4 (some (u1 5)))))))) := rfl
set_option maxRecDepth 20000 in
theorem n_v8 (dC : Nat → ClassId) (dI : Nat → Nat → Nat) (aC : Nat → ClassId) (q0 q1 : Nat) (u1 u2 : Nat → Nat) {H : Heap} (hP : va_P (dC, dI) vwCl (n_W aC q0 q1 u1 u2) H) : va_at (dC, dI) vwCl (n_ad q0 q1 u1 u2 8, q_cl ((dC, dI, aC, n_ad q0 q1 u1 u2) : q_E) n_mu 8) H := by
  have h := hP _ _ (n_e8 aC q0 q1 u1 u2)
  rw [q_cl_r (t := 2) q_k8 (by decide) q_n8]
  refine Eq.trans h (congrArg some (n_refs (fun j hj => ?_)))
  rcases (show j = 0 ∨ j = 1 ∨ j = 2 ∨ j = 3 ∨ j = 4 by omega) with rfl | rfl | rfl | rfl | rfl <;> rfl
set_option maxRecDepth 20000 in
theorem n_e9 (aC : Nat → ClassId) (q0 q1 : Nat) (u1 u2 : Nat → Nat) : (n_W aC q0 q1 u1 u2)[n_pos 9]? = some (n_ad q0 q1 u1 u2 9, .inl (aC 1, 5, .inr (.inl (fun _ => 0)))) := rfl
set_option maxRecDepth 20000 in
theorem n_v9 (dC : Nat → ClassId) (dI : Nat → Nat → Nat) (aC : Nat → ClassId) (q0 q1 : Nat) (u1 u2 : Nat → Nat) {H : Heap} (hP : va_P (dC, dI) vwCl (n_W aC q0 q1 u1 u2) H) : va_at (dC, dI) vwCl (n_ad q0 q1 u1 u2 9, q_cl ((dC, dI, aC, n_ad q0 q1 u1 u2) : q_E) n_mu 9) H := by
  have h := hP _ _ (n_e9 aC q0 q1 u1 u2)
  rw [q_cl_l q_k9 q_n9]
  exact h
set_option maxRecDepth 20000 in
theorem n_e10 (aC : Nat → ClassId) (q0 q1 : Nat) (u1 u2 : Nat → Nat) : (n_W aC q0 q1 u1 u2)[n_pos 10]? = some (n_ad q0 q1 u1 u2 10, .inl (aC 1, 5, .inr (.inl (fun _ => 0)))) := rfl
set_option maxRecDepth 20000 in
theorem n_v10 (dC : Nat → ClassId) (dI : Nat → Nat → Nat) (aC : Nat → ClassId) (q0 q1 : Nat) (u1 u2 : Nat → Nat) {H : Heap} (hP : va_P (dC, dI) vwCl (n_W aC q0 q1 u1 u2) H) : va_at (dC, dI) vwCl (n_ad q0 q1 u1 u2 10, q_cl ((dC, dI, aC, n_ad q0 q1 u1 u2) : q_E) n_mu 10) H := by
  have h := hP _ _ (n_e10 aC q0 q1 u1 u2)
  rw [q_cl_l q_k10 q_n10]
  exact h
set_option maxRecDepth 20000 in
theorem n_e11 (aC : Nat → ClassId) (q0 q1 : Nat) (u1 u2 : Nat → Nat) : (n_W aC q0 q1 u1 u2)[n_pos 11]? = some (n_ad q0 q1 u1 u2 11, .inl (aC 1, 6, .inr (.inl (fun _ => 0)))) := rfl
set_option maxRecDepth 20000 in
theorem n_v11 (dC : Nat → ClassId) (dI : Nat → Nat → Nat) (aC : Nat → ClassId) (q0 q1 : Nat) (u1 u2 : Nat → Nat) {H : Heap} (hP : va_P (dC, dI) vwCl (n_W aC q0 q1 u1 u2) H) : va_at (dC, dI) vwCl (n_ad q0 q1 u1 u2 11, q_cl ((dC, dI, aC, n_ad q0 q1 u1 u2) : q_E) n_mu 11) H := by
  have h := hP _ _ (n_e11 aC q0 q1 u1 u2)
  rw [q_cl_l q_k11 q_n11]
  exact h
set_option maxRecDepth 20000 in
theorem n_e12 (aC : Nat → ClassId) (q0 q1 : Nat) (u1 u2 : Nat → Nat) : (n_W aC q0 q1 u1 u2)[n_pos 12]? = some (n_ad q0 q1 u1 u2 12, .inl (aC 1, 6, .inr (.inl (fun _ => 0)))) := rfl
set_option maxRecDepth 20000 in
theorem n_v12 (dC : Nat → ClassId) (dI : Nat → Nat → Nat) (aC : Nat → ClassId) (q0 q1 : Nat) (u1 u2 : Nat → Nat) {H : Heap} (hP : va_P (dC, dI) vwCl (n_W aC q0 q1 u1 u2) H) : va_at (dC, dI) vwCl (n_ad q0 q1 u1 u2 12, q_cl ((dC, dI, aC, n_ad q0 q1 u1 u2) : q_E) n_mu 12) H := by
  have h := hP _ _ (n_e12 aC q0 q1 u1 u2)
  rw [q_cl_l q_k12 q_n12]
  exact h
set_option maxRecDepth 20000 in
theorem n_e13 (aC : Nat → ClassId) (q0 q1 : Nat) (u1 u2 : Nat → Nat) : (n_W aC q0 q1 u1 u2)[n_pos 13]? = some (n_ad q0 q1 u1 u2 13, .inl (aC 1, 6, .inr (.inl (fun _ => 0)))) := rfl
set_option maxRecDepth 20000 in
theorem n_v13 (dC : Nat → ClassId) (dI : Nat → Nat → Nat) (aC : Nat → ClassId) (q0 q1 : Nat) (u1 u2 : Nat → Nat) {H : Heap} (hP : va_P (dC, dI) vwCl (n_W aC q0 q1 u1 u2) H) : va_at (dC, dI) vwCl (n_ad q0 q1 u1 u2 13, q_cl ((dC, dI, aC, n_ad q0 q1 u1 u2) : q_E) n_mu 13) H := by
  have h := hP _ _ (n_e13 aC q0 q1 u1 u2)
  rw [q_cl_l q_k13 q_n13]
  exact h
set_option maxRecDepth 20000 in
theorem n_e14 (aC : Nat → ClassId) (q0 q1 : Nat) (u1 u2 : Nat → Nat) : (n_W aC q0 q1 u1 u2)[n_pos 14]? = some (n_ad q0 q1 u1 u2 14, .inr (6, [.int 0, .int 0, .int 0, .int 0, .int 0, .int 0, .int (-1), .int 0, .int 0, .ref (u1 118), .ref (u1 117)])) := rfl
set_option maxRecDepth 20000 in
theorem n_v14 (dC : Nat → ClassId) (dI : Nat → Nat → Nat) (aC : Nat → ClassId) (q0 q1 : Nat) (u1 u2 : Nat → Nat) {H : Heap} (hP : va_P (dC, dI) vwCl (n_W aC q0 q1 u1 u2) H) : va_at (dC, dI) vwCl (n_ad q0 q1 u1 u2 14, q_cl ((dC, dI, aC, n_ad q0 q1 u1 u2) : q_E) n_mu 14) H := by
  have h := hP _ _ (n_e14 aC q0 q1 u1 u2)
  rw [q_cl_o q_k14 (by decide)]
  exact h
set_option maxRecDepth 20000 in
theorem n_e15 (aC : Nat → ClassId) (q0 q1 : Nat) (u1 u2 : Nat → Nat) : (n_W aC q0 q1 u1 u2)[n_pos 15]? = some (n_ad q0 q1 u1 u2 15, .inr (6, [.int 0, .int 0, .int 0, .int 0, .int 0, .int 0, .int (-1), .int 0, .int 0, .ref (u1 115), .ref (u1 114)])) := rfl
set_option maxRecDepth 20000 in
theorem n_v15 (dC : Nat → ClassId) (dI : Nat → Nat → Nat) (aC : Nat → ClassId) (q0 q1 : Nat) (u1 u2 : Nat → Nat) {H : Heap} (hP : va_P (dC, dI) vwCl (n_W aC q0 q1 u1 u2) H) : va_at (dC, dI) vwCl (n_ad q0 q1 u1 u2 15, q_cl ((dC, dI, aC, n_ad q0 q1 u1 u2) : q_E) n_mu 15) H := by
  have h := hP _ _ (n_e15 aC q0 q1 u1 u2)
  rw [q_cl_o q_k15 (by decide)]
  exact h
set_option maxRecDepth 20000 in
theorem n_e16 (aC : Nat → ClassId) (q0 q1 : Nat) (u1 u2 : Nat → Nat) : (n_W aC q0 q1 u1 u2)[n_pos 16]? = some (n_ad q0 q1 u1 u2 16, .inr (6, [.int 0, .int 0, .int 0, .int 0, .int 0, .int 0, .int (-1), .int 0, .int 0, .ref (u1 112), .ref (u1 111)])) := rfl
set_option maxRecDepth 20000 in
theorem n_v16 (dC : Nat → ClassId) (dI : Nat → Nat → Nat) (aC : Nat → ClassId) (q0 q1 : Nat) (u1 u2 : Nat → Nat) {H : Heap} (hP : va_P (dC, dI) vwCl (n_W aC q0 q1 u1 u2) H) : va_at (dC, dI) vwCl (n_ad q0 q1 u1 u2 16, q_cl ((dC, dI, aC, n_ad q0 q1 u1 u2) : q_E) n_mu 16) H := by
  have h := hP _ _ (n_e16 aC q0 q1 u1 u2)
  rw [q_cl_o q_k16 (by decide)]
  exact h
set_option maxRecDepth 20000 in
theorem n_e17 (aC : Nat → ClassId) (q0 q1 : Nat) (u1 u2 : Nat → Nat) : (n_W aC q0 q1 u1 u2)[n_pos 17]? = some (n_ad q0 q1 u1 u2 17, .inr (6, [.int 0, .int 0, .int 0, .int 0, .int 0, .int 0, .int (-1), .int 0, .int 0, .ref (u1 109), .ref (u1 108)])) := rfl
set_option maxRecDepth 20000 in
theorem n_v17 (dC : Nat → ClassId) (dI : Nat → Nat → Nat) (aC : Nat → ClassId) (q0 q1 : Nat) (u1 u2 : Nat → Nat) {H : Heap} (hP : va_P (dC, dI) vwCl (n_W aC q0 q1 u1 u2) H) : va_at (dC, dI) vwCl (n_ad q0 q1 u1 u2 17, q_cl ((dC, dI, aC, n_ad q0 q1 u1 u2) : q_E) n_mu 17) H := by
  have h := hP _ _ (n_e17 aC q0 q1 u1 u2)
  rw [q_cl_o q_k17 (by decide)]
  exact h
set_option maxRecDepth 20000 in
theorem n_e18 (aC : Nat → ClassId) (q0 q1 : Nat) (u1 u2 : Nat → Nat) : (n_W aC q0 q1 u1 u2)[n_pos 18]? = some (n_ad q0 q1 u1 u2 18, .inr (6, [.int 0, .int 0, .int 0, .int 0, .int 0, .int 0, .int (-1), .int 0, .int 0, .ref (u1 106), .ref (u1 105)])) := rfl
set_option maxRecDepth 20000 in
theorem n_v18 (dC : Nat → ClassId) (dI : Nat → Nat → Nat) (aC : Nat → ClassId) (q0 q1 : Nat) (u1 u2 : Nat → Nat) {H : Heap} (hP : va_P (dC, dI) vwCl (n_W aC q0 q1 u1 u2) H) : va_at (dC, dI) vwCl (n_ad q0 q1 u1 u2 18, q_cl ((dC, dI, aC, n_ad q0 q1 u1 u2) : q_E) n_mu 18) H := by
  have h := hP _ _ (n_e18 aC q0 q1 u1 u2)
  rw [q_cl_o q_k18 (by decide)]
  exact h
set_option maxRecDepth 20000 in
theorem n_e19 (aC : Nat → ClassId) (q0 q1 : Nat) (u1 u2 : Nat → Nat) : (n_W aC q0 q1 u1 u2)[n_pos 19]? = some (n_ad q0 q1 u1 u2 19, .inr (6, [.int 0, .int 0, .int 0, .int 0, .int 0, .int 0, .int (-1), .int 0, .int 0, .ref (u1 103), .ref (u1 102)])) := rfl
set_option maxRecDepth 20000 in
theorem n_v19 (dC : Nat → ClassId) (dI : Nat → Nat → Nat) (aC : Nat → ClassId) (q0 q1 : Nat) (u1 u2 : Nat → Nat) {H : Heap} (hP : va_P (dC, dI) vwCl (n_W aC q0 q1 u1 u2) H) : va_at (dC, dI) vwCl (n_ad q0 q1 u1 u2 19, q_cl ((dC, dI, aC, n_ad q0 q1 u1 u2) : q_E) n_mu 19) H := by
  have h := hP _ _ (n_e19 aC q0 q1 u1 u2)
  rw [q_cl_o q_k19 (by decide)]
  exact h
set_option maxRecDepth 20000 in
theorem n_e20 (aC : Nat → ClassId) (q0 q1 : Nat) (u1 u2 : Nat → Nat) : (n_W aC q0 q1 u1 u2)[n_pos 20]? = some (n_ad q0 q1 u1 u2 20, .inr (6, [.int 0, .int 0, .int 0, .int 0, .int 0, .int 0, .int (-1), .int 0, .int 0, .ref (u1 100), .ref (u1 99)])) := rfl
set_option maxRecDepth 20000 in
theorem n_v20 (dC : Nat → ClassId) (dI : Nat → Nat → Nat) (aC : Nat → ClassId) (q0 q1 : Nat) (u1 u2 : Nat → Nat) {H : Heap} (hP : va_P (dC, dI) vwCl (n_W aC q0 q1 u1 u2) H) : va_at (dC, dI) vwCl (n_ad q0 q1 u1 u2 20, q_cl ((dC, dI, aC, n_ad q0 q1 u1 u2) : q_E) n_mu 20) H := by
  have h := hP _ _ (n_e20 aC q0 q1 u1 u2)
  rw [q_cl_o q_k20 (by decide)]
  exact h
set_option maxRecDepth 20000 in
theorem n_e21 (aC : Nat → ClassId) (q0 q1 : Nat) (u1 u2 : Nat → Nat) : (n_W aC q0 q1 u1 u2)[n_pos 21]? = some (n_ad q0 q1 u1 u2 21, .inr (6, [.int 0, .int 0, .int 0, .int 0, .int 0, .int 0, .int (-1), .int 0, .int 0, .ref (u1 97), .ref (u1 96)])) := rfl
set_option maxRecDepth 20000 in
theorem n_v21 (dC : Nat → ClassId) (dI : Nat → Nat → Nat) (aC : Nat → ClassId) (q0 q1 : Nat) (u1 u2 : Nat → Nat) {H : Heap} (hP : va_P (dC, dI) vwCl (n_W aC q0 q1 u1 u2) H) : va_at (dC, dI) vwCl (n_ad q0 q1 u1 u2 21, q_cl ((dC, dI, aC, n_ad q0 q1 u1 u2) : q_E) n_mu 21) H := by
  have h := hP _ _ (n_e21 aC q0 q1 u1 u2)
  rw [q_cl_o q_k21 (by decide)]
  exact h
set_option maxRecDepth 20000 in
theorem n_e22 (aC : Nat → ClassId) (q0 q1 : Nat) (u1 u2 : Nat → Nat) : (n_W aC q0 q1 u1 u2)[n_pos 22]? = some (n_ad q0 q1 u1 u2 22, .inr (6, [.int 0, .int 0, .int 0, .int 0, .int 0, .int 0, .int (-1), .int 0, .int 0, .ref (u1 94), .ref (u1 93)])) := rfl
set_option maxRecDepth 20000 in
theorem n_v22 (dC : Nat → ClassId) (dI : Nat → Nat → Nat) (aC : Nat → ClassId) (q0 q1 : Nat) (u1 u2 : Nat → Nat) {H : Heap} (hP : va_P (dC, dI) vwCl (n_W aC q0 q1 u1 u2) H) : va_at (dC, dI) vwCl (n_ad q0 q1 u1 u2 22, q_cl ((dC, dI, aC, n_ad q0 q1 u1 u2) : q_E) n_mu 22) H := by
  have h := hP _ _ (n_e22 aC q0 q1 u1 u2)
  rw [q_cl_o q_k22 (by decide)]
  exact h
set_option maxRecDepth 20000 in
theorem n_e23 (aC : Nat → ClassId) (q0 q1 : Nat) (u1 u2 : Nat → Nat) : (n_W aC q0 q1 u1 u2)[n_pos 23]? = some (n_ad q0 q1 u1 u2 23, .inr (6, [.int 0, .int 0, .int 0, .int 0, .int 0, .int 0, .int (-1), .int 0, .int 0, .ref (u1 91), .ref (u1 90)])) := rfl
set_option maxRecDepth 20000 in
theorem n_v23 (dC : Nat → ClassId) (dI : Nat → Nat → Nat) (aC : Nat → ClassId) (q0 q1 : Nat) (u1 u2 : Nat → Nat) {H : Heap} (hP : va_P (dC, dI) vwCl (n_W aC q0 q1 u1 u2) H) : va_at (dC, dI) vwCl (n_ad q0 q1 u1 u2 23, q_cl ((dC, dI, aC, n_ad q0 q1 u1 u2) : q_E) n_mu 23) H := by
  have h := hP _ _ (n_e23 aC q0 q1 u1 u2)
  rw [q_cl_o q_k23 (by decide)]
  exact h
set_option maxRecDepth 20000 in
theorem n_e24 (aC : Nat → ClassId) (q0 q1 : Nat) (u1 u2 : Nat → Nat) : (n_W aC q0 q1 u1 u2)[n_pos 24]? = some (n_ad q0 q1 u1 u2 24, .inr (6, [.int 0, .int 0, .int 0, .int 0, .int 0, .int 0, .int (-1), .int 0, .int 0, .ref (u1 88), .ref (u1 87)])) := rfl
set_option maxRecDepth 20000 in
theorem n_v24 (dC : Nat → ClassId) (dI : Nat → Nat → Nat) (aC : Nat → ClassId) (q0 q1 : Nat) (u1 u2 : Nat → Nat) {H : Heap} (hP : va_P (dC, dI) vwCl (n_W aC q0 q1 u1 u2) H) : va_at (dC, dI) vwCl (n_ad q0 q1 u1 u2 24, q_cl ((dC, dI, aC, n_ad q0 q1 u1 u2) : q_E) n_mu 24) H := by
  have h := hP _ _ (n_e24 aC q0 q1 u1 u2)
  rw [q_cl_o q_k24 (by decide)]
  exact h
set_option maxRecDepth 20000 in
theorem n_e25 (aC : Nat → ClassId) (q0 q1 : Nat) (u1 u2 : Nat → Nat) : (n_W aC q0 q1 u1 u2)[n_pos 25]? = some (n_ad q0 q1 u1 u2 25, .inr (6, [.int 0, .int 0, .int 0, .int 0, .int 0, .int 0, .int (-1), .int 0, .int 0, .ref (u1 85), .ref (u1 84)])) := rfl
set_option maxRecDepth 20000 in
theorem n_v25 (dC : Nat → ClassId) (dI : Nat → Nat → Nat) (aC : Nat → ClassId) (q0 q1 : Nat) (u1 u2 : Nat → Nat) {H : Heap} (hP : va_P (dC, dI) vwCl (n_W aC q0 q1 u1 u2) H) : va_at (dC, dI) vwCl (n_ad q0 q1 u1 u2 25, q_cl ((dC, dI, aC, n_ad q0 q1 u1 u2) : q_E) n_mu 25) H := by
  have h := hP _ _ (n_e25 aC q0 q1 u1 u2)
  rw [q_cl_o q_k25 (by decide)]
  exact h
set_option maxRecDepth 20000 in
theorem n_e26 (aC : Nat → ClassId) (q0 q1 : Nat) (u1 u2 : Nat → Nat) : (n_W aC q0 q1 u1 u2)[n_pos 26]? = some (n_ad q0 q1 u1 u2 26, .inl (aC 0, 3, .inl (fun _ => 0))) := rfl
set_option maxRecDepth 20000 in
theorem n_v26 (dC : Nat → ClassId) (dI : Nat → Nat → Nat) (aC : Nat → ClassId) (q0 q1 : Nat) (u1 u2 : Nat → Nat) {H : Heap} (hP : va_P (dC, dI) vwCl (n_W aC q0 q1 u1 u2) H) : va_at (dC, dI) vwCl (n_ad q0 q1 u1 u2 26, q_cl ((dC, dI, aC, n_ad q0 q1 u1 u2) : q_E) n_mu 26) H := by
  have h := hP _ _ (n_e26 aC q0 q1 u1 u2)
  rw [q_cl_i q_k26 q_n26]
  exact h
set_option maxRecDepth 20000 in
theorem n_e27 (aC : Nat → ClassId) (q0 q1 : Nat) (u1 u2 : Nat → Nat) : (n_W aC q0 q1 u1 u2)[n_pos 27]? = some (n_ad q0 q1 u1 u2 27, .inl (aC 0, 3, .inl (fun _ => 0))) := rfl
set_option maxRecDepth 20000 in
theorem n_v27 (dC : Nat → ClassId) (dI : Nat → Nat → Nat) (aC : Nat → ClassId) (q0 q1 : Nat) (u1 u2 : Nat → Nat) {H : Heap} (hP : va_P (dC, dI) vwCl (n_W aC q0 q1 u1 u2) H) : va_at (dC, dI) vwCl (n_ad q0 q1 u1 u2 27, q_cl ((dC, dI, aC, n_ad q0 q1 u1 u2) : q_E) n_mu 27) H := by
  have h := hP _ _ (n_e27 aC q0 q1 u1 u2)
  rw [q_cl_i q_k27 q_n27]
  exact h
set_option maxRecDepth 20000 in
theorem n_e28 (aC : Nat → ClassId) (q0 q1 : Nat) (u1 u2 : Nat → Nat) : (n_W aC q0 q1 u1 u2)[n_pos 28]? = some (n_ad q0 q1 u1 u2 28, .inl (aC 0, 3, .inl (fun _ => 0))) := rfl
set_option maxRecDepth 20000 in
theorem n_v28 (dC : Nat → ClassId) (dI : Nat → Nat → Nat) (aC : Nat → ClassId) (q0 q1 : Nat) (u1 u2 : Nat → Nat) {H : Heap} (hP : va_P (dC, dI) vwCl (n_W aC q0 q1 u1 u2) H) : va_at (dC, dI) vwCl (n_ad q0 q1 u1 u2 28, q_cl ((dC, dI, aC, n_ad q0 q1 u1 u2) : q_E) n_mu 28) H := by
  have h := hP _ _ (n_e28 aC q0 q1 u1 u2)
  rw [q_cl_i q_k28 q_n28]
  exact h
set_option maxRecDepth 20000 in
theorem n_e29 (aC : Nat → ClassId) (q0 q1 : Nat) (u1 u2 : Nat → Nat) : (n_W aC q0 q1 u1 u2)[n_pos 29]? = some (n_ad q0 q1 u1 u2 29, .inl (aC 0, 3, .inl (fun _ => 0))) := rfl
set_option maxRecDepth 20000 in
theorem n_v29 (dC : Nat → ClassId) (dI : Nat → Nat → Nat) (aC : Nat → ClassId) (q0 q1 : Nat) (u1 u2 : Nat → Nat) {H : Heap} (hP : va_P (dC, dI) vwCl (n_W aC q0 q1 u1 u2) H) : va_at (dC, dI) vwCl (n_ad q0 q1 u1 u2 29, q_cl ((dC, dI, aC, n_ad q0 q1 u1 u2) : q_E) n_mu 29) H := by
  have h := hP _ _ (n_e29 aC q0 q1 u1 u2)
  rw [q_cl_i q_k29 q_n29]
  exact h
set_option maxRecDepth 20000 in
theorem n_e30 (aC : Nat → ClassId) (q0 q1 : Nat) (u1 u2 : Nat → Nat) : (n_W aC q0 q1 u1 u2)[n_pos 30]? = some (n_ad q0 q1 u1 u2 30, .inl (aC 0, 3, .inl (fun _ => 0))) := rfl
set_option maxRecDepth 20000 in
theorem n_v30 (dC : Nat → ClassId) (dI : Nat → Nat → Nat) (aC : Nat → ClassId) (q0 q1 : Nat) (u1 u2 : Nat → Nat) {H : Heap} (hP : va_P (dC, dI) vwCl (n_W aC q0 q1 u1 u2) H) : va_at (dC, dI) vwCl (n_ad q0 q1 u1 u2 30, q_cl ((dC, dI, aC, n_ad q0 q1 u1 u2) : q_E) n_mu 30) H := by
  have h := hP _ _ (n_e30 aC q0 q1 u1 u2)
  rw [q_cl_i q_k30 q_n30]
  exact h
set_option maxRecDepth 20000 in
theorem n_e31 (aC : Nat → ClassId) (q0 q1 : Nat) (u1 u2 : Nat → Nat) : (n_W aC q0 q1 u1 u2)[n_pos 31]? = some (n_ad q0 q1 u1 u2 31, .inl (aC 0, 3, .inl (fun _ => 0))) := rfl
set_option maxRecDepth 20000 in
theorem n_v31 (dC : Nat → ClassId) (dI : Nat → Nat → Nat) (aC : Nat → ClassId) (q0 q1 : Nat) (u1 u2 : Nat → Nat) {H : Heap} (hP : va_P (dC, dI) vwCl (n_W aC q0 q1 u1 u2) H) : va_at (dC, dI) vwCl (n_ad q0 q1 u1 u2 31, q_cl ((dC, dI, aC, n_ad q0 q1 u1 u2) : q_E) n_mu 31) H := by
  have h := hP _ _ (n_e31 aC q0 q1 u1 u2)
  rw [q_cl_i q_k31 q_n31]
  exact h
set_option maxRecDepth 20000 in
theorem n_e32 (aC : Nat → ClassId) (q0 q1 : Nat) (u1 u2 : Nat → Nat) : (n_W aC q0 q1 u1 u2)[n_pos 32]? = some (n_ad q0 q1 u1 u2 32, .inl (aC 0, 3, .inl (fun _ => 0))) := rfl
set_option maxRecDepth 20000 in
theorem n_v32 (dC : Nat → ClassId) (dI : Nat → Nat → Nat) (aC : Nat → ClassId) (q0 q1 : Nat) (u1 u2 : Nat → Nat) {H : Heap} (hP : va_P (dC, dI) vwCl (n_W aC q0 q1 u1 u2) H) : va_at (dC, dI) vwCl (n_ad q0 q1 u1 u2 32, q_cl ((dC, dI, aC, n_ad q0 q1 u1 u2) : q_E) n_mu 32) H := by
  have h := hP _ _ (n_e32 aC q0 q1 u1 u2)
  rw [q_cl_i q_k32 q_n32]
  exact h
set_option maxRecDepth 20000 in
theorem n_e33 (aC : Nat → ClassId) (q0 q1 : Nat) (u1 u2 : Nat → Nat) : (n_W aC q0 q1 u1 u2)[n_pos 33]? = some (n_ad q0 q1 u1 u2 33, .inl (aC 0, 3, .inl (fun _ => 0))) := rfl
set_option maxRecDepth 20000 in
theorem n_v33 (dC : Nat → ClassId) (dI : Nat → Nat → Nat) (aC : Nat → ClassId) (q0 q1 : Nat) (u1 u2 : Nat → Nat) {H : Heap} (hP : va_P (dC, dI) vwCl (n_W aC q0 q1 u1 u2) H) : va_at (dC, dI) vwCl (n_ad q0 q1 u1 u2 33, q_cl ((dC, dI, aC, n_ad q0 q1 u1 u2) : q_E) n_mu 33) H := by
  have h := hP _ _ (n_e33 aC q0 q1 u1 u2)
  rw [q_cl_i q_k33 q_n33]
  exact h
set_option maxRecDepth 20000 in
theorem n_e34 (aC : Nat → ClassId) (q0 q1 : Nat) (u1 u2 : Nat → Nat) : (n_W aC q0 q1 u1 u2)[n_pos 34]? = some (n_ad q0 q1 u1 u2 34, .inl (aC 0, 3, .inl (fun _ => 0))) := rfl
set_option maxRecDepth 20000 in
theorem n_v34 (dC : Nat → ClassId) (dI : Nat → Nat → Nat) (aC : Nat → ClassId) (q0 q1 : Nat) (u1 u2 : Nat → Nat) {H : Heap} (hP : va_P (dC, dI) vwCl (n_W aC q0 q1 u1 u2) H) : va_at (dC, dI) vwCl (n_ad q0 q1 u1 u2 34, q_cl ((dC, dI, aC, n_ad q0 q1 u1 u2) : q_E) n_mu 34) H := by
  have h := hP _ _ (n_e34 aC q0 q1 u1 u2)
  rw [q_cl_i q_k34 q_n34]
  exact h
set_option maxRecDepth 20000 in
theorem n_e35 (aC : Nat → ClassId) (q0 q1 : Nat) (u1 u2 : Nat → Nat) : (n_W aC q0 q1 u1 u2)[n_pos 35]? = some (n_ad q0 q1 u1 u2 35, .inl (aC 0, 3, .inl (fun _ => 0))) := rfl
set_option maxRecDepth 20000 in
theorem n_v35 (dC : Nat → ClassId) (dI : Nat → Nat → Nat) (aC : Nat → ClassId) (q0 q1 : Nat) (u1 u2 : Nat → Nat) {H : Heap} (hP : va_P (dC, dI) vwCl (n_W aC q0 q1 u1 u2) H) : va_at (dC, dI) vwCl (n_ad q0 q1 u1 u2 35, q_cl ((dC, dI, aC, n_ad q0 q1 u1 u2) : q_E) n_mu 35) H := by
  have h := hP _ _ (n_e35 aC q0 q1 u1 u2)
  rw [q_cl_i q_k35 q_n35]
  exact h
set_option maxRecDepth 20000 in
theorem n_e36 (aC : Nat → ClassId) (q0 q1 : Nat) (u1 u2 : Nat → Nat) : (n_W aC q0 q1 u1 u2)[n_pos 36]? = some (n_ad q0 q1 u1 u2 36, .inl (aC 0, 3, .inl (fun _ => 0))) := rfl
set_option maxRecDepth 20000 in
theorem n_v36 (dC : Nat → ClassId) (dI : Nat → Nat → Nat) (aC : Nat → ClassId) (q0 q1 : Nat) (u1 u2 : Nat → Nat) {H : Heap} (hP : va_P (dC, dI) vwCl (n_W aC q0 q1 u1 u2) H) : va_at (dC, dI) vwCl (n_ad q0 q1 u1 u2 36, q_cl ((dC, dI, aC, n_ad q0 q1 u1 u2) : q_E) n_mu 36) H := by
  have h := hP _ _ (n_e36 aC q0 q1 u1 u2)
  rw [q_cl_i q_k36 q_n36]
  exact h
set_option maxRecDepth 20000 in
theorem n_e37 (aC : Nat → ClassId) (q0 q1 : Nat) (u1 u2 : Nat → Nat) : (n_W aC q0 q1 u1 u2)[n_pos 37]? = some (n_ad q0 q1 u1 u2 37, .inl (aC 0, 3, .inl (fun _ => 0))) := rfl
set_option maxRecDepth 20000 in
theorem n_v37 (dC : Nat → ClassId) (dI : Nat → Nat → Nat) (aC : Nat → ClassId) (q0 q1 : Nat) (u1 u2 : Nat → Nat) {H : Heap} (hP : va_P (dC, dI) vwCl (n_W aC q0 q1 u1 u2) H) : va_at (dC, dI) vwCl (n_ad q0 q1 u1 u2 37, q_cl ((dC, dI, aC, n_ad q0 q1 u1 u2) : q_E) n_mu 37) H := by
  have h := hP _ _ (n_e37 aC q0 q1 u1 u2)
  rw [q_cl_i q_k37 q_n37]
  exact h
set_option maxRecDepth 20000 in
theorem n_e38 (aC : Nat → ClassId) (q0 q1 : Nat) (u1 u2 : Nat → Nat) : (n_W aC q0 q1 u1 u2)[n_pos 38]? = some (n_ad q0 q1 u1 u2 38, .inl (aC 0, 3, .inl (fun _ => 0))) := rfl
set_option maxRecDepth 20000 in
theorem n_v38 (dC : Nat → ClassId) (dI : Nat → Nat → Nat) (aC : Nat → ClassId) (q0 q1 : Nat) (u1 u2 : Nat → Nat) {H : Heap} (hP : va_P (dC, dI) vwCl (n_W aC q0 q1 u1 u2) H) : va_at (dC, dI) vwCl (n_ad q0 q1 u1 u2 38, q_cl ((dC, dI, aC, n_ad q0 q1 u1 u2) : q_E) n_mu 38) H := by
  have h := hP _ _ (n_e38 aC q0 q1 u1 u2)
  rw [q_cl_i q_k38 q_n38]
  exact h
set_option maxRecDepth 20000 in
theorem n_e39 (aC : Nat → ClassId) (q0 q1 : Nat) (u1 u2 : Nat → Nat) : (n_W aC q0 q1 u1 u2)[n_pos 39]? = some (n_ad q0 q1 u1 u2 39, .inl (aC 0, 3, .inl (fun _ => 0))) := rfl
set_option maxRecDepth 20000 in
theorem n_v39 (dC : Nat → ClassId) (dI : Nat → Nat → Nat) (aC : Nat → ClassId) (q0 q1 : Nat) (u1 u2 : Nat → Nat) {H : Heap} (hP : va_P (dC, dI) vwCl (n_W aC q0 q1 u1 u2) H) : va_at (dC, dI) vwCl (n_ad q0 q1 u1 u2 39, q_cl ((dC, dI, aC, n_ad q0 q1 u1 u2) : q_E) n_mu 39) H := by
  have h := hP _ _ (n_e39 aC q0 q1 u1 u2)
  rw [q_cl_i q_k39 q_n39]
  exact h
set_option maxRecDepth 20000 in
theorem n_e40 (aC : Nat → ClassId) (q0 q1 : Nat) (u1 u2 : Nat → Nat) : (n_W aC q0 q1 u1 u2)[n_pos 40]? = some (n_ad q0 q1 u1 u2 40, .inl (aC 0, 3, .inl (fun _ => 0))) := rfl
set_option maxRecDepth 20000 in
theorem n_v40 (dC : Nat → ClassId) (dI : Nat → Nat → Nat) (aC : Nat → ClassId) (q0 q1 : Nat) (u1 u2 : Nat → Nat) {H : Heap} (hP : va_P (dC, dI) vwCl (n_W aC q0 q1 u1 u2) H) : va_at (dC, dI) vwCl (n_ad q0 q1 u1 u2 40, q_cl ((dC, dI, aC, n_ad q0 q1 u1 u2) : q_E) n_mu 40) H := by
  have h := hP _ _ (n_e40 aC q0 q1 u1 u2)
  rw [q_cl_i q_k40 q_n40]
  exact h
set_option maxRecDepth 20000 in
theorem n_e41 (aC : Nat → ClassId) (q0 q1 : Nat) (u1 u2 : Nat → Nat) : (n_W aC q0 q1 u1 u2)[n_pos 41]? = some (n_ad q0 q1 u1 u2 41, .inl (aC 0, 3, .inl (fun _ => 0))) := rfl
set_option maxRecDepth 20000 in
theorem n_v41 (dC : Nat → ClassId) (dI : Nat → Nat → Nat) (aC : Nat → ClassId) (q0 q1 : Nat) (u1 u2 : Nat → Nat) {H : Heap} (hP : va_P (dC, dI) vwCl (n_W aC q0 q1 u1 u2) H) : va_at (dC, dI) vwCl (n_ad q0 q1 u1 u2 41, q_cl ((dC, dI, aC, n_ad q0 q1 u1 u2) : q_E) n_mu 41) H := by
  have h := hP _ _ (n_e41 aC q0 q1 u1 u2)
  rw [q_cl_i q_k41 q_n41]
  exact h
set_option maxRecDepth 20000 in
theorem n_e42 (aC : Nat → ClassId) (q0 q1 : Nat) (u1 u2 : Nat → Nat) : (n_W aC q0 q1 u1 u2)[n_pos 42]? = some (n_ad q0 q1 u1 u2 42, .inl (aC 0, 3, .inl (fun _ => 0))) := rfl
set_option maxRecDepth 20000 in
theorem n_v42 (dC : Nat → ClassId) (dI : Nat → Nat → Nat) (aC : Nat → ClassId) (q0 q1 : Nat) (u1 u2 : Nat → Nat) {H : Heap} (hP : va_P (dC, dI) vwCl (n_W aC q0 q1 u1 u2) H) : va_at (dC, dI) vwCl (n_ad q0 q1 u1 u2 42, q_cl ((dC, dI, aC, n_ad q0 q1 u1 u2) : q_E) n_mu 42) H := by
  have h := hP _ _ (n_e42 aC q0 q1 u1 u2)
  rw [q_cl_i q_k42 q_n42]
  exact h
set_option maxRecDepth 20000 in
theorem n_e43 (aC : Nat → ClassId) (q0 q1 : Nat) (u1 u2 : Nat → Nat) : (n_W aC q0 q1 u1 u2)[n_pos 43]? = some (n_ad q0 q1 u1 u2 43, .inl (aC 0, 3, .inl (fun _ => 0))) := rfl
set_option maxRecDepth 20000 in
theorem n_v43 (dC : Nat → ClassId) (dI : Nat → Nat → Nat) (aC : Nat → ClassId) (q0 q1 : Nat) (u1 u2 : Nat → Nat) {H : Heap} (hP : va_P (dC, dI) vwCl (n_W aC q0 q1 u1 u2) H) : va_at (dC, dI) vwCl (n_ad q0 q1 u1 u2 43, q_cl ((dC, dI, aC, n_ad q0 q1 u1 u2) : q_E) n_mu 43) H := by
  have h := hP _ _ (n_e43 aC q0 q1 u1 u2)
  rw [q_cl_i q_k43 q_n43]
  exact h
set_option maxRecDepth 20000 in
theorem n_e44 (aC : Nat → ClassId) (q0 q1 : Nat) (u1 u2 : Nat → Nat) : (n_W aC q0 q1 u1 u2)[n_pos 44]? = some (n_ad q0 q1 u1 u2 44, .inl (aC 0, 3, .inl (fun _ => 0))) := rfl
set_option maxRecDepth 20000 in
theorem n_v44 (dC : Nat → ClassId) (dI : Nat → Nat → Nat) (aC : Nat → ClassId) (q0 q1 : Nat) (u1 u2 : Nat → Nat) {H : Heap} (hP : va_P (dC, dI) vwCl (n_W aC q0 q1 u1 u2) H) : va_at (dC, dI) vwCl (n_ad q0 q1 u1 u2 44, q_cl ((dC, dI, aC, n_ad q0 q1 u1 u2) : q_E) n_mu 44) H := by
  have h := hP _ _ (n_e44 aC q0 q1 u1 u2)
  rw [q_cl_i q_k44 q_n44]
  exact h
set_option maxRecDepth 20000 in
theorem n_e45 (aC : Nat → ClassId) (q0 q1 : Nat) (u1 u2 : Nat → Nat) : (n_W aC q0 q1 u1 u2)[n_pos 45]? = some (n_ad q0 q1 u1 u2 45, .inl (aC 0, 3, .inl (fun _ => 0))) := rfl
set_option maxRecDepth 20000 in
theorem n_v45 (dC : Nat → ClassId) (dI : Nat → Nat → Nat) (aC : Nat → ClassId) (q0 q1 : Nat) (u1 u2 : Nat → Nat) {H : Heap} (hP : va_P (dC, dI) vwCl (n_W aC q0 q1 u1 u2) H) : va_at (dC, dI) vwCl (n_ad q0 q1 u1 u2 45, q_cl ((dC, dI, aC, n_ad q0 q1 u1 u2) : q_E) n_mu 45) H := by
  have h := hP _ _ (n_e45 aC q0 q1 u1 u2)
  rw [q_cl_i q_k45 q_n45]
  exact h
set_option maxRecDepth 20000 in
theorem n_e46 (aC : Nat → ClassId) (q0 q1 : Nat) (u1 u2 : Nat → Nat) : (n_W aC q0 q1 u1 u2)[n_pos 46]? = some (n_ad q0 q1 u1 u2 46, .inl (aC 0, 3, .inl (fun _ => 0))) := rfl
set_option maxRecDepth 20000 in
theorem n_v46 (dC : Nat → ClassId) (dI : Nat → Nat → Nat) (aC : Nat → ClassId) (q0 q1 : Nat) (u1 u2 : Nat → Nat) {H : Heap} (hP : va_P (dC, dI) vwCl (n_W aC q0 q1 u1 u2) H) : va_at (dC, dI) vwCl (n_ad q0 q1 u1 u2 46, q_cl ((dC, dI, aC, n_ad q0 q1 u1 u2) : q_E) n_mu 46) H := by
  have h := hP _ _ (n_e46 aC q0 q1 u1 u2)
  rw [q_cl_i q_k46 q_n46]
  exact h
set_option maxRecDepth 20000 in
theorem n_e47 (aC : Nat → ClassId) (q0 q1 : Nat) (u1 u2 : Nat → Nat) : (n_W aC q0 q1 u1 u2)[n_pos 47]? = some (n_ad q0 q1 u1 u2 47, .inl (aC 0, 3, .inl (fun _ => 0))) := rfl
set_option maxRecDepth 20000 in
theorem n_v47 (dC : Nat → ClassId) (dI : Nat → Nat → Nat) (aC : Nat → ClassId) (q0 q1 : Nat) (u1 u2 : Nat → Nat) {H : Heap} (hP : va_P (dC, dI) vwCl (n_W aC q0 q1 u1 u2) H) : va_at (dC, dI) vwCl (n_ad q0 q1 u1 u2 47, q_cl ((dC, dI, aC, n_ad q0 q1 u1 u2) : q_E) n_mu 47) H := by
  have h := hP _ _ (n_e47 aC q0 q1 u1 u2)
  rw [q_cl_i q_k47 q_n47]
  exact h
set_option maxRecDepth 20000 in
theorem n_e48 (aC : Nat → ClassId) (q0 q1 : Nat) (u1 u2 : Nat → Nat) : (n_W aC q0 q1 u1 u2)[n_pos 48]? = some (n_ad q0 q1 u1 u2 48, .inl (aC 0, 3, .inl (fun _ => 0))) := rfl
set_option maxRecDepth 20000 in
theorem n_v48 (dC : Nat → ClassId) (dI : Nat → Nat → Nat) (aC : Nat → ClassId) (q0 q1 : Nat) (u1 u2 : Nat → Nat) {H : Heap} (hP : va_P (dC, dI) vwCl (n_W aC q0 q1 u1 u2) H) : va_at (dC, dI) vwCl (n_ad q0 q1 u1 u2 48, q_cl ((dC, dI, aC, n_ad q0 q1 u1 u2) : q_E) n_mu 48) H := by
  have h := hP _ _ (n_e48 aC q0 q1 u1 u2)
  rw [q_cl_i q_k48 q_n48]
  exact h
set_option maxRecDepth 20000 in
theorem n_e49 (aC : Nat → ClassId) (q0 q1 : Nat) (u1 u2 : Nat → Nat) : (n_W aC q0 q1 u1 u2)[n_pos 49]? = some (n_ad q0 q1 u1 u2 49, .inl (aC 0, 3, .inl (fun _ => 0))) := rfl
set_option maxRecDepth 20000 in
theorem n_v49 (dC : Nat → ClassId) (dI : Nat → Nat → Nat) (aC : Nat → ClassId) (q0 q1 : Nat) (u1 u2 : Nat → Nat) {H : Heap} (hP : va_P (dC, dI) vwCl (n_W aC q0 q1 u1 u2) H) : va_at (dC, dI) vwCl (n_ad q0 q1 u1 u2 49, q_cl ((dC, dI, aC, n_ad q0 q1 u1 u2) : q_E) n_mu 49) H := by
  have h := hP _ _ (n_e49 aC q0 q1 u1 u2)
  rw [q_cl_i q_k49 q_n49]
  exact h
set_option maxRecDepth 20000 in
theorem n_e50 (aC : Nat → ClassId) (q0 q1 : Nat) (u1 u2 : Nat → Nat) : (n_W aC q0 q1 u1 u2)[n_pos 50]? = some (n_ad q0 q1 u1 u2 50, .inr (0, [.int 0, .int 0, .ref (u1 82), .ref (u1 81), .ref (u1 80), .ref (u1 79), .int 0, .int 0])) := rfl
set_option maxRecDepth 20000 in
theorem n_v50 (dC : Nat → ClassId) (dI : Nat → Nat → Nat) (aC : Nat → ClassId) (q0 q1 : Nat) (u1 u2 : Nat → Nat) {H : Heap} (hP : va_P (dC, dI) vwCl (n_W aC q0 q1 u1 u2) H) : va_at (dC, dI) vwCl (n_ad q0 q1 u1 u2 50, q_cl ((dC, dI, aC, n_ad q0 q1 u1 u2) : q_E) n_mu 50) H := by
  have h := hP _ _ (n_e50 aC q0 q1 u1 u2)
  rw [q_cl_o q_k50 (by decide)]
  exact h
set_option maxRecDepth 20000 in
theorem n_e51 (aC : Nat → ClassId) (q0 q1 : Nat) (u1 u2 : Nat → Nat) : (n_W aC q0 q1 u1 u2)[n_pos 51]? = some (n_ad q0 q1 u1 u2 51, .inr (0, [.int 0, .int 0, .ref (u1 73), .ref (u1 72), .ref (u1 71), .ref (u1 70), .int 0, .int 0])) := rfl
set_option maxRecDepth 20000 in
theorem n_v51 (dC : Nat → ClassId) (dI : Nat → Nat → Nat) (aC : Nat → ClassId) (q0 q1 : Nat) (u1 u2 : Nat → Nat) {H : Heap} (hP : va_P (dC, dI) vwCl (n_W aC q0 q1 u1 u2) H) : va_at (dC, dI) vwCl (n_ad q0 q1 u1 u2 51, q_cl ((dC, dI, aC, n_ad q0 q1 u1 u2) : q_E) n_mu 51) H := by
  have h := hP _ _ (n_e51 aC q0 q1 u1 u2)
  rw [q_cl_o q_k51 (by decide)]
  exact h
set_option maxRecDepth 20000 in
theorem n_e52 (aC : Nat → ClassId) (q0 q1 : Nat) (u1 u2 : Nat → Nat) : (n_W aC q0 q1 u1 u2)[n_pos 52]? = some (n_ad q0 q1 u1 u2 52, .inr (0, [.int 0, .int 0, .ref (u1 64), .ref (u1 63), .ref (u1 62), .ref (u1 61), .int 0, .int 0])) := rfl
set_option maxRecDepth 20000 in
theorem n_v52 (dC : Nat → ClassId) (dI : Nat → Nat → Nat) (aC : Nat → ClassId) (q0 q1 : Nat) (u1 u2 : Nat → Nat) {H : Heap} (hP : va_P (dC, dI) vwCl (n_W aC q0 q1 u1 u2) H) : va_at (dC, dI) vwCl (n_ad q0 q1 u1 u2 52, q_cl ((dC, dI, aC, n_ad q0 q1 u1 u2) : q_E) n_mu 52) H := by
  have h := hP _ _ (n_e52 aC q0 q1 u1 u2)
  rw [q_cl_o q_k52 (by decide)]
  exact h
set_option maxRecDepth 20000 in
theorem n_e53 (aC : Nat → ClassId) (q0 q1 : Nat) (u1 u2 : Nat → Nat) : (n_W aC q0 q1 u1 u2)[n_pos 53]? = some (n_ad q0 q1 u1 u2 53, .inr (0, [.int 0, .int 0, .ref (u1 55), .ref (u1 54), .ref (u1 53), .ref (u1 52), .int 0, .int 0])) := rfl
set_option maxRecDepth 20000 in
theorem n_v53 (dC : Nat → ClassId) (dI : Nat → Nat → Nat) (aC : Nat → ClassId) (q0 q1 : Nat) (u1 u2 : Nat → Nat) {H : Heap} (hP : va_P (dC, dI) vwCl (n_W aC q0 q1 u1 u2) H) : va_at (dC, dI) vwCl (n_ad q0 q1 u1 u2 53, q_cl ((dC, dI, aC, n_ad q0 q1 u1 u2) : q_E) n_mu 53) H := by
  have h := hP _ _ (n_e53 aC q0 q1 u1 u2)
  rw [q_cl_o q_k53 (by decide)]
  exact h
set_option maxRecDepth 20000 in
theorem n_e54 (aC : Nat → ClassId) (q0 q1 : Nat) (u1 u2 : Nat → Nat) : (n_W aC q0 q1 u1 u2)[n_pos 54]? = some (n_ad q0 q1 u1 u2 54, .inr (0, [.int 0, .int 0, .ref (u1 46), .ref (u1 45), .ref (u1 44), .ref (u1 43), .int 0, .int 0])) := rfl
set_option maxRecDepth 20000 in
theorem n_v54 (dC : Nat → ClassId) (dI : Nat → Nat → Nat) (aC : Nat → ClassId) (q0 q1 : Nat) (u1 u2 : Nat → Nat) {H : Heap} (hP : va_P (dC, dI) vwCl (n_W aC q0 q1 u1 u2) H) : va_at (dC, dI) vwCl (n_ad q0 q1 u1 u2 54, q_cl ((dC, dI, aC, n_ad q0 q1 u1 u2) : q_E) n_mu 54) H := by
  have h := hP _ _ (n_e54 aC q0 q1 u1 u2)
  rw [q_cl_o q_k54 (by decide)]
  exact h
set_option maxRecDepth 20000 in
theorem n_e55 (aC : Nat → ClassId) (q0 q1 : Nat) (u1 u2 : Nat → Nat) : (n_W aC q0 q1 u1 u2)[n_pos 55]? = some (n_ad q0 q1 u1 u2 55, .inr (0, [.int 0, .int 0, .ref (u1 37), .ref (u1 36), .ref (u1 35), .ref (u1 34), .int 0, .int 0])) := rfl
set_option maxRecDepth 20000 in
theorem n_v55 (dC : Nat → ClassId) (dI : Nat → Nat → Nat) (aC : Nat → ClassId) (q0 q1 : Nat) (u1 u2 : Nat → Nat) {H : Heap} (hP : va_P (dC, dI) vwCl (n_W aC q0 q1 u1 u2) H) : va_at (dC, dI) vwCl (n_ad q0 q1 u1 u2 55, q_cl ((dC, dI, aC, n_ad q0 q1 u1 u2) : q_E) n_mu 55) H := by
  have h := hP _ _ (n_e55 aC q0 q1 u1 u2)
  rw [q_cl_o q_k55 (by decide)]
  exact h
set_option maxRecDepth 20000 in
theorem n_e56 (aC : Nat → ClassId) (q0 q1 : Nat) (u1 u2 : Nat → Nat) : (n_W aC q0 q1 u1 u2)[n_pos 56]? = some (n_ad q0 q1 u1 u2 56, .inl (aC 1, 6, .inr (.inl (fun _ => 0)))) := rfl
set_option maxRecDepth 20000 in
theorem n_v56 (dC : Nat → ClassId) (dI : Nat → Nat → Nat) (aC : Nat → ClassId) (q0 q1 : Nat) (u1 u2 : Nat → Nat) {H : Heap} (hP : va_P (dC, dI) vwCl (n_W aC q0 q1 u1 u2) H) : va_at (dC, dI) vwCl (n_ad q0 q1 u1 u2 56, q_cl ((dC, dI, aC, n_ad q0 q1 u1 u2) : q_E) n_mu 56) H := by
  have h := hP _ _ (n_e56 aC q0 q1 u1 u2)
  rw [q_cl_l q_k56 q_n56]
  exact h
set_option maxRecDepth 20000 in
theorem n_e57 (aC : Nat → ClassId) (q0 q1 : Nat) (u1 u2 : Nat → Nat) : (n_W aC q0 q1 u1 u2)[n_pos 57]? = some (n_ad q0 q1 u1 u2 57, .inl (aC 1, 6, .inr (.inl (fun _ => 0)))) := rfl
set_option maxRecDepth 20000 in
theorem n_v57 (dC : Nat → ClassId) (dI : Nat → Nat → Nat) (aC : Nat → ClassId) (q0 q1 : Nat) (u1 u2 : Nat → Nat) {H : Heap} (hP : va_P (dC, dI) vwCl (n_W aC q0 q1 u1 u2) H) : va_at (dC, dI) vwCl (n_ad q0 q1 u1 u2 57, q_cl ((dC, dI, aC, n_ad q0 q1 u1 u2) : q_E) n_mu 57) H := by
  have h := hP _ _ (n_e57 aC q0 q1 u1 u2)
  rw [q_cl_l q_k57 q_n57]
  exact h
set_option maxRecDepth 20000 in
theorem n_e58 (aC : Nat → ClassId) (q0 q1 : Nat) (u1 u2 : Nat → Nat) : (n_W aC q0 q1 u1 u2)[n_pos 58]? = some (n_ad q0 q1 u1 u2 58, .inl (aC 1, 6, .inr (.inl (fun _ => 0)))) := rfl
set_option maxRecDepth 20000 in
theorem n_v58 (dC : Nat → ClassId) (dI : Nat → Nat → Nat) (aC : Nat → ClassId) (q0 q1 : Nat) (u1 u2 : Nat → Nat) {H : Heap} (hP : va_P (dC, dI) vwCl (n_W aC q0 q1 u1 u2) H) : va_at (dC, dI) vwCl (n_ad q0 q1 u1 u2 58, q_cl ((dC, dI, aC, n_ad q0 q1 u1 u2) : q_E) n_mu 58) H := by
  have h := hP _ _ (n_e58 aC q0 q1 u1 u2)
  rw [q_cl_l q_k58 q_n58]
  exact h
set_option maxRecDepth 20000 in
theorem n_e59 (aC : Nat → ClassId) (q0 q1 : Nat) (u1 u2 : Nat → Nat) : (n_W aC q0 q1 u1 u2)[n_pos 59]? = some (n_ad q0 q1 u1 u2 59, .inl (aC 1, 6, .inr (.inl (fun _ => 0)))) := rfl
set_option maxRecDepth 20000 in
theorem n_v59 (dC : Nat → ClassId) (dI : Nat → Nat → Nat) (aC : Nat → ClassId) (q0 q1 : Nat) (u1 u2 : Nat → Nat) {H : Heap} (hP : va_P (dC, dI) vwCl (n_W aC q0 q1 u1 u2) H) : va_at (dC, dI) vwCl (n_ad q0 q1 u1 u2 59, q_cl ((dC, dI, aC, n_ad q0 q1 u1 u2) : q_E) n_mu 59) H := by
  have h := hP _ _ (n_e59 aC q0 q1 u1 u2)
  rw [q_cl_l q_k59 q_n59]
  exact h
set_option maxRecDepth 20000 in
theorem n_e60 (aC : Nat → ClassId) (q0 q1 : Nat) (u1 u2 : Nat → Nat) : (n_W aC q0 q1 u1 u2)[n_pos 60]? = some (n_ad q0 q1 u1 u2 60, .inl (aC 1, 6, .inr (.inl (fun _ => 0)))) := rfl
set_option maxRecDepth 20000 in
theorem n_v60 (dC : Nat → ClassId) (dI : Nat → Nat → Nat) (aC : Nat → ClassId) (q0 q1 : Nat) (u1 u2 : Nat → Nat) {H : Heap} (hP : va_P (dC, dI) vwCl (n_W aC q0 q1 u1 u2) H) : va_at (dC, dI) vwCl (n_ad q0 q1 u1 u2 60, q_cl ((dC, dI, aC, n_ad q0 q1 u1 u2) : q_E) n_mu 60) H := by
  have h := hP _ _ (n_e60 aC q0 q1 u1 u2)
  rw [q_cl_l q_k60 q_n60]
  exact h
set_option maxRecDepth 20000 in
theorem n_e61 (aC : Nat → ClassId) (q0 q1 : Nat) (u1 u2 : Nat → Nat) : (n_W aC q0 q1 u1 u2)[n_pos 61]? = some (n_ad q0 q1 u1 u2 61, .inl (aC 1, 6, .inr (.inl (fun _ => 0)))) := rfl
set_option maxRecDepth 20000 in
theorem n_v61 (dC : Nat → ClassId) (dI : Nat → Nat → Nat) (aC : Nat → ClassId) (q0 q1 : Nat) (u1 u2 : Nat → Nat) {H : Heap} (hP : va_P (dC, dI) vwCl (n_W aC q0 q1 u1 u2) H) : va_at (dC, dI) vwCl (n_ad q0 q1 u1 u2 61, q_cl ((dC, dI, aC, n_ad q0 q1 u1 u2) : q_E) n_mu 61) H := by
  have h := hP _ _ (n_e61 aC q0 q1 u1 u2)
  rw [q_cl_l q_k61 q_n61]
  exact h
set_option maxRecDepth 20000 in
theorem n_e62 (aC : Nat → ClassId) (q0 q1 : Nat) (u1 u2 : Nat → Nat) : (n_W aC q0 q1 u1 u2)[n_pos 62]? = some (n_ad q0 q1 u1 u2 62, .inl (aC 1, 6, .inr (.inl (fun _ => 0)))) := rfl
set_option maxRecDepth 20000 in
theorem n_v62 (dC : Nat → ClassId) (dI : Nat → Nat → Nat) (aC : Nat → ClassId) (q0 q1 : Nat) (u1 u2 : Nat → Nat) {H : Heap} (hP : va_P (dC, dI) vwCl (n_W aC q0 q1 u1 u2) H) : va_at (dC, dI) vwCl (n_ad q0 q1 u1 u2 62, q_cl ((dC, dI, aC, n_ad q0 q1 u1 u2) : q_E) n_mu 62) H := by
  have h := hP _ _ (n_e62 aC q0 q1 u1 u2)
  rw [q_cl_l q_k62 q_n62]
  exact h
set_option maxRecDepth 20000 in
theorem n_e63 (aC : Nat → ClassId) (q0 q1 : Nat) (u1 u2 : Nat → Nat) : (n_W aC q0 q1 u1 u2)[n_pos 63]? = some (n_ad q0 q1 u1 u2 63, .inl (aC 1, 6, .inr (.inl (fun _ => 0)))) := rfl
set_option maxRecDepth 20000 in
theorem n_v63 (dC : Nat → ClassId) (dI : Nat → Nat → Nat) (aC : Nat → ClassId) (q0 q1 : Nat) (u1 u2 : Nat → Nat) {H : Heap} (hP : va_P (dC, dI) vwCl (n_W aC q0 q1 u1 u2) H) : va_at (dC, dI) vwCl (n_ad q0 q1 u1 u2 63, q_cl ((dC, dI, aC, n_ad q0 q1 u1 u2) : q_E) n_mu 63) H := by
  have h := hP _ _ (n_e63 aC q0 q1 u1 u2)
  rw [q_cl_l q_k63 q_n63]
  exact h
set_option maxRecDepth 20000 in
theorem n_e64 (aC : Nat → ClassId) (q0 q1 : Nat) (u1 u2 : Nat → Nat) : (n_W aC q0 q1 u1 u2)[n_pos 64]? = some (n_ad q0 q1 u1 u2 64, .inl (aC 1, 6, .inr (.inl (fun _ => 0)))) := rfl
set_option maxRecDepth 20000 in
theorem n_v64 (dC : Nat → ClassId) (dI : Nat → Nat → Nat) (aC : Nat → ClassId) (q0 q1 : Nat) (u1 u2 : Nat → Nat) {H : Heap} (hP : va_P (dC, dI) vwCl (n_W aC q0 q1 u1 u2) H) : va_at (dC, dI) vwCl (n_ad q0 q1 u1 u2 64, q_cl ((dC, dI, aC, n_ad q0 q1 u1 u2) : q_E) n_mu 64) H := by
  have h := hP _ _ (n_e64 aC q0 q1 u1 u2)
  rw [q_cl_l q_k64 q_n64]
  exact h
set_option maxRecDepth 20000 in
theorem n_e65 (aC : Nat → ClassId) (q0 q1 : Nat) (u1 u2 : Nat → Nat) : (n_W aC q0 q1 u1 u2)[n_pos 65]? = some (n_ad q0 q1 u1 u2 65, .inl (aC 1, 6, .inr (.inl (fun _ => 0)))) := rfl
set_option maxRecDepth 20000 in
theorem n_v65 (dC : Nat → ClassId) (dI : Nat → Nat → Nat) (aC : Nat → ClassId) (q0 q1 : Nat) (u1 u2 : Nat → Nat) {H : Heap} (hP : va_P (dC, dI) vwCl (n_W aC q0 q1 u1 u2) H) : va_at (dC, dI) vwCl (n_ad q0 q1 u1 u2 65, q_cl ((dC, dI, aC, n_ad q0 q1 u1 u2) : q_E) n_mu 65) H := by
  have h := hP _ _ (n_e65 aC q0 q1 u1 u2)
  rw [q_cl_l q_k65 q_n65]
  exact h
set_option maxRecDepth 20000 in
theorem n_e66 (aC : Nat → ClassId) (q0 q1 : Nat) (u1 u2 : Nat → Nat) : (n_W aC q0 q1 u1 u2)[n_pos 66]? = some (n_ad q0 q1 u1 u2 66, .inl (aC 1, 6, .inr (.inl (fun _ => 0)))) := rfl
set_option maxRecDepth 20000 in
theorem n_v66 (dC : Nat → ClassId) (dI : Nat → Nat → Nat) (aC : Nat → ClassId) (q0 q1 : Nat) (u1 u2 : Nat → Nat) {H : Heap} (hP : va_P (dC, dI) vwCl (n_W aC q0 q1 u1 u2) H) : va_at (dC, dI) vwCl (n_ad q0 q1 u1 u2 66, q_cl ((dC, dI, aC, n_ad q0 q1 u1 u2) : q_E) n_mu 66) H := by
  have h := hP _ _ (n_e66 aC q0 q1 u1 u2)
  rw [q_cl_l q_k66 q_n66]
  exact h
set_option maxRecDepth 20000 in
theorem n_e67 (aC : Nat → ClassId) (q0 q1 : Nat) (u1 u2 : Nat → Nat) : (n_W aC q0 q1 u1 u2)[n_pos 67]? = some (n_ad q0 q1 u1 u2 67, .inl (aC 1, 6, .inr (.inl (fun _ => 0)))) := rfl
set_option maxRecDepth 20000 in
theorem n_v67 (dC : Nat → ClassId) (dI : Nat → Nat → Nat) (aC : Nat → ClassId) (q0 q1 : Nat) (u1 u2 : Nat → Nat) {H : Heap} (hP : va_P (dC, dI) vwCl (n_W aC q0 q1 u1 u2) H) : va_at (dC, dI) vwCl (n_ad q0 q1 u1 u2 67, q_cl ((dC, dI, aC, n_ad q0 q1 u1 u2) : q_E) n_mu 67) H := by
  have h := hP _ _ (n_e67 aC q0 q1 u1 u2)
  rw [q_cl_l q_k67 q_n67]
  exact h
set_option maxRecDepth 20000 in
theorem n_e68 (aC : Nat → ClassId) (q0 q1 : Nat) (u1 u2 : Nat → Nat) : (n_W aC q0 q1 u1 u2)[n_pos 68]? = some (n_ad q0 q1 u1 u2 68, .inl (aC 1, 6, .inr (.inl (fun _ => 0)))) := rfl
set_option maxRecDepth 20000 in
theorem n_v68 (dC : Nat → ClassId) (dI : Nat → Nat → Nat) (aC : Nat → ClassId) (q0 q1 : Nat) (u1 u2 : Nat → Nat) {H : Heap} (hP : va_P (dC, dI) vwCl (n_W aC q0 q1 u1 u2) H) : va_at (dC, dI) vwCl (n_ad q0 q1 u1 u2 68, q_cl ((dC, dI, aC, n_ad q0 q1 u1 u2) : q_E) n_mu 68) H := by
  have h := hP _ _ (n_e68 aC q0 q1 u1 u2)
  rw [q_cl_l q_k68 q_n68]
  exact h
set_option maxRecDepth 20000 in
theorem n_e69 (aC : Nat → ClassId) (q0 q1 : Nat) (u1 u2 : Nat → Nat) : (n_W aC q0 q1 u1 u2)[n_pos 69]? = some (n_ad q0 q1 u1 u2 69, .inl (aC 1, 6, .inr (.inl (fun _ => 0)))) := rfl
set_option maxRecDepth 20000 in
theorem n_v69 (dC : Nat → ClassId) (dI : Nat → Nat → Nat) (aC : Nat → ClassId) (q0 q1 : Nat) (u1 u2 : Nat → Nat) {H : Heap} (hP : va_P (dC, dI) vwCl (n_W aC q0 q1 u1 u2) H) : va_at (dC, dI) vwCl (n_ad q0 q1 u1 u2 69, q_cl ((dC, dI, aC, n_ad q0 q1 u1 u2) : q_E) n_mu 69) H := by
  have h := hP _ _ (n_e69 aC q0 q1 u1 u2)
  rw [q_cl_l q_k69 q_n69]
  exact h
set_option maxRecDepth 20000 in
theorem n_e70 (aC : Nat → ClassId) (q0 q1 : Nat) (u1 u2 : Nat → Nat) : (n_W aC q0 q1 u1 u2)[n_pos 70]? = some (n_ad q0 q1 u1 u2 70, .inl (aC 1, 6, .inr (.inl (fun _ => 0)))) := rfl
set_option maxRecDepth 20000 in
theorem n_v70 (dC : Nat → ClassId) (dI : Nat → Nat → Nat) (aC : Nat → ClassId) (q0 q1 : Nat) (u1 u2 : Nat → Nat) {H : Heap} (hP : va_P (dC, dI) vwCl (n_W aC q0 q1 u1 u2) H) : va_at (dC, dI) vwCl (n_ad q0 q1 u1 u2 70, q_cl ((dC, dI, aC, n_ad q0 q1 u1 u2) : q_E) n_mu 70) H := by
  have h := hP _ _ (n_e70 aC q0 q1 u1 u2)
  rw [q_cl_l q_k70 q_n70]
  exact h
set_option maxRecDepth 20000 in
theorem n_e71 (aC : Nat → ClassId) (q0 q1 : Nat) (u1 u2 : Nat → Nat) : (n_W aC q0 q1 u1 u2)[n_pos 71]? = some (n_ad q0 q1 u1 u2 71, .inl (aC 1, 6, .inr (.inl (fun _ => 0)))) := rfl
set_option maxRecDepth 20000 in
theorem n_v71 (dC : Nat → ClassId) (dI : Nat → Nat → Nat) (aC : Nat → ClassId) (q0 q1 : Nat) (u1 u2 : Nat → Nat) {H : Heap} (hP : va_P (dC, dI) vwCl (n_W aC q0 q1 u1 u2) H) : va_at (dC, dI) vwCl (n_ad q0 q1 u1 u2 71, q_cl ((dC, dI, aC, n_ad q0 q1 u1 u2) : q_E) n_mu 71) H := by
  have h := hP _ _ (n_e71 aC q0 q1 u1 u2)
  rw [q_cl_l q_k71 q_n71]
  exact h
set_option maxRecDepth 20000 in
theorem n_e72 (aC : Nat → ClassId) (q0 q1 : Nat) (u1 u2 : Nat → Nat) : (n_W aC q0 q1 u1 u2)[n_pos 72]? = some (n_ad q0 q1 u1 u2 72, .inl (aC 1, 6, .inr (.inl (fun _ => 0)))) := rfl
set_option maxRecDepth 20000 in
theorem n_v72 (dC : Nat → ClassId) (dI : Nat → Nat → Nat) (aC : Nat → ClassId) (q0 q1 : Nat) (u1 u2 : Nat → Nat) {H : Heap} (hP : va_P (dC, dI) vwCl (n_W aC q0 q1 u1 u2) H) : va_at (dC, dI) vwCl (n_ad q0 q1 u1 u2 72, q_cl ((dC, dI, aC, n_ad q0 q1 u1 u2) : q_E) n_mu 72) H := by
  have h := hP _ _ (n_e72 aC q0 q1 u1 u2)
  rw [q_cl_l q_k72 q_n72]
  exact h
set_option maxRecDepth 20000 in
theorem n_e73 (aC : Nat → ClassId) (q0 q1 : Nat) (u1 u2 : Nat → Nat) : (n_W aC q0 q1 u1 u2)[n_pos 73]? = some (n_ad q0 q1 u1 u2 73, .inl (aC 1, 6, .inr (.inl (fun _ => 0)))) := rfl
set_option maxRecDepth 20000 in
theorem n_v73 (dC : Nat → ClassId) (dI : Nat → Nat → Nat) (aC : Nat → ClassId) (q0 q1 : Nat) (u1 u2 : Nat → Nat) {H : Heap} (hP : va_P (dC, dI) vwCl (n_W aC q0 q1 u1 u2) H) : va_at (dC, dI) vwCl (n_ad q0 q1 u1 u2 73, q_cl ((dC, dI, aC, n_ad q0 q1 u1 u2) : q_E) n_mu 73) H := by
  have h := hP _ _ (n_e73 aC q0 q1 u1 u2)
  rw [q_cl_l q_k73 q_n73]
  exact h
set_option maxRecDepth 20000 in
theorem n_e74 (aC : Nat → ClassId) (q0 q1 : Nat) (u1 u2 : Nat → Nat) : (n_W aC q0 q1 u1 u2)[n_pos 74]? = some (n_ad q0 q1 u1 u2 74, .inr (5, [.ref (u1 78), .ref (u1 75)])) := rfl
set_option maxRecDepth 20000 in
theorem n_v74 (dC : Nat → ClassId) (dI : Nat → Nat → Nat) (aC : Nat → ClassId) (q0 q1 : Nat) (u1 u2 : Nat → Nat) {H : Heap} (hP : va_P (dC, dI) vwCl (n_W aC q0 q1 u1 u2) H) : va_at (dC, dI) vwCl (n_ad q0 q1 u1 u2 74, q_cl ((dC, dI, aC, n_ad q0 q1 u1 u2) : q_E) n_mu 74) H := by
  have h := hP _ _ (n_e74 aC q0 q1 u1 u2)
  rw [q_cl_o q_k74 (by decide)]
  exact h
set_option maxRecDepth 20000 in
theorem n_e75 (aC : Nat → ClassId) (q0 q1 : Nat) (u1 u2 : Nat → Nat) : (n_W aC q0 q1 u1 u2)[n_pos 75]? = some (n_ad q0 q1 u1 u2 75, .inr (5, [.ref (u1 69), .ref (u1 66)])) := rfl
set_option maxRecDepth 20000 in
theorem n_v75 (dC : Nat → ClassId) (dI : Nat → Nat → Nat) (aC : Nat → ClassId) (q0 q1 : Nat) (u1 u2 : Nat → Nat) {H : Heap} (hP : va_P (dC, dI) vwCl (n_W aC q0 q1 u1 u2) H) : va_at (dC, dI) vwCl (n_ad q0 q1 u1 u2 75, q_cl ((dC, dI, aC, n_ad q0 q1 u1 u2) : q_E) n_mu 75) H := by
  have h := hP _ _ (n_e75 aC q0 q1 u1 u2)
  rw [q_cl_o q_k75 (by decide)]
  exact h
set_option maxRecDepth 20000 in
theorem n_e76 (aC : Nat → ClassId) (q0 q1 : Nat) (u1 u2 : Nat → Nat) : (n_W aC q0 q1 u1 u2)[n_pos 76]? = some (n_ad q0 q1 u1 u2 76, .inr (5, [.ref (u1 60), .ref (u1 57)])) := rfl
set_option maxRecDepth 20000 in
theorem n_v76 (dC : Nat → ClassId) (dI : Nat → Nat → Nat) (aC : Nat → ClassId) (q0 q1 : Nat) (u1 u2 : Nat → Nat) {H : Heap} (hP : va_P (dC, dI) vwCl (n_W aC q0 q1 u1 u2) H) : va_at (dC, dI) vwCl (n_ad q0 q1 u1 u2 76, q_cl ((dC, dI, aC, n_ad q0 q1 u1 u2) : q_E) n_mu 76) H := by
  have h := hP _ _ (n_e76 aC q0 q1 u1 u2)
  rw [q_cl_o q_k76 (by decide)]
  exact h
set_option maxRecDepth 20000 in
theorem n_e77 (aC : Nat → ClassId) (q0 q1 : Nat) (u1 u2 : Nat → Nat) : (n_W aC q0 q1 u1 u2)[n_pos 77]? = some (n_ad q0 q1 u1 u2 77, .inr (5, [.ref (u1 51), .ref (u1 48)])) := rfl
set_option maxRecDepth 20000 in
theorem n_v77 (dC : Nat → ClassId) (dI : Nat → Nat → Nat) (aC : Nat → ClassId) (q0 q1 : Nat) (u1 u2 : Nat → Nat) {H : Heap} (hP : va_P (dC, dI) vwCl (n_W aC q0 q1 u1 u2) H) : va_at (dC, dI) vwCl (n_ad q0 q1 u1 u2 77, q_cl ((dC, dI, aC, n_ad q0 q1 u1 u2) : q_E) n_mu 77) H := by
  have h := hP _ _ (n_e77 aC q0 q1 u1 u2)
  rw [q_cl_o q_k77 (by decide)]
  exact h
set_option maxRecDepth 20000 in
theorem n_e78 (aC : Nat → ClassId) (q0 q1 : Nat) (u1 u2 : Nat → Nat) : (n_W aC q0 q1 u1 u2)[n_pos 78]? = some (n_ad q0 q1 u1 u2 78, .inr (5, [.ref (u1 42), .ref (u1 39)])) := rfl
set_option maxRecDepth 20000 in
theorem n_v78 (dC : Nat → ClassId) (dI : Nat → Nat → Nat) (aC : Nat → ClassId) (q0 q1 : Nat) (u1 u2 : Nat → Nat) {H : Heap} (hP : va_P (dC, dI) vwCl (n_W aC q0 q1 u1 u2) H) : va_at (dC, dI) vwCl (n_ad q0 q1 u1 u2 78, q_cl ((dC, dI, aC, n_ad q0 q1 u1 u2) : q_E) n_mu 78) H := by
  have h := hP _ _ (n_e78 aC q0 q1 u1 u2)
  rw [q_cl_o q_k78 (by decide)]
  exact h
set_option maxRecDepth 20000 in
theorem n_e79 (aC : Nat → ClassId) (q0 q1 : Nat) (u1 u2 : Nat → Nat) : (n_W aC q0 q1 u1 u2)[n_pos 79]? = some (n_ad q0 q1 u1 u2 79, .inr (5, [.ref (u1 33), .ref (u1 30)])) := rfl
set_option maxRecDepth 20000 in
theorem n_v79 (dC : Nat → ClassId) (dI : Nat → Nat → Nat) (aC : Nat → ClassId) (q0 q1 : Nat) (u1 u2 : Nat → Nat) {H : Heap} (hP : va_P (dC, dI) vwCl (n_W aC q0 q1 u1 u2) H) : va_at (dC, dI) vwCl (n_ad q0 q1 u1 u2 79, q_cl ((dC, dI, aC, n_ad q0 q1 u1 u2) : q_E) n_mu 79) H := by
  have h := hP _ _ (n_e79 aC q0 q1 u1 u2)
  rw [q_cl_o q_k79 (by decide)]
  exact h
set_option maxRecDepth 20000 in
theorem n_e80 (aC : Nat → ClassId) (q0 q1 : Nat) (u1 u2 : Nat → Nat) : (n_W aC q0 q1 u1 u2)[n_pos 80]? = some (n_ad q0 q1 u1 u2 80, .inr (5, [.ref (u1 126), .ref (u1 123)])) := rfl
set_option maxRecDepth 20000 in
theorem n_v80 (dC : Nat → ClassId) (dI : Nat → Nat → Nat) (aC : Nat → ClassId) (q0 q1 : Nat) (u1 u2 : Nat → Nat) {H : Heap} (hP : va_P (dC, dI) vwCl (n_W aC q0 q1 u1 u2) H) : va_at (dC, dI) vwCl (n_ad q0 q1 u1 u2 80, q_cl ((dC, dI, aC, n_ad q0 q1 u1 u2) : q_E) n_mu 80) H := by
  have h := hP _ _ (n_e80 aC q0 q1 u1 u2)
  rw [q_cl_o q_k80 (by decide)]
  exact h
set_option maxRecDepth 20000 in
theorem n_e81 (aC : Nat → ClassId) (q0 q1 : Nat) (u1 u2 : Nat → Nat) : (n_W aC q0 q1 u1 u2)[n_pos 81]? = some (n_ad q0 q1 u1 u2 81, .inr (8, [.ref (u1 77)])) := rfl
set_option maxRecDepth 20000 in
theorem n_v81 (dC : Nat → ClassId) (dI : Nat → Nat → Nat) (aC : Nat → ClassId) (q0 q1 : Nat) (u1 u2 : Nat → Nat) {H : Heap} (hP : va_P (dC, dI) vwCl (n_W aC q0 q1 u1 u2) H) : va_at (dC, dI) vwCl (n_ad q0 q1 u1 u2 81, q_cl ((dC, dI, aC, n_ad q0 q1 u1 u2) : q_E) n_mu 81) H := by
  have h := hP _ _ (n_e81 aC q0 q1 u1 u2)
  rw [q_cl_o q_k81 (by decide)]
  exact h
set_option maxRecDepth 20000 in
theorem n_e82 (aC : Nat → ClassId) (q0 q1 : Nat) (u1 u2 : Nat → Nat) : (n_W aC q0 q1 u1 u2)[n_pos 82]? = some (n_ad q0 q1 u1 u2 82, .inr (8, [.ref (u1 68)])) := rfl
set_option maxRecDepth 20000 in
theorem n_v82 (dC : Nat → ClassId) (dI : Nat → Nat → Nat) (aC : Nat → ClassId) (q0 q1 : Nat) (u1 u2 : Nat → Nat) {H : Heap} (hP : va_P (dC, dI) vwCl (n_W aC q0 q1 u1 u2) H) : va_at (dC, dI) vwCl (n_ad q0 q1 u1 u2 82, q_cl ((dC, dI, aC, n_ad q0 q1 u1 u2) : q_E) n_mu 82) H := by
  have h := hP _ _ (n_e82 aC q0 q1 u1 u2)
  rw [q_cl_o q_k82 (by decide)]
  exact h
set_option maxRecDepth 20000 in
theorem n_e83 (aC : Nat → ClassId) (q0 q1 : Nat) (u1 u2 : Nat → Nat) : (n_W aC q0 q1 u1 u2)[n_pos 83]? = some (n_ad q0 q1 u1 u2 83, .inr (8, [.ref (u1 59)])) := rfl
set_option maxRecDepth 20000 in
theorem n_v83 (dC : Nat → ClassId) (dI : Nat → Nat → Nat) (aC : Nat → ClassId) (q0 q1 : Nat) (u1 u2 : Nat → Nat) {H : Heap} (hP : va_P (dC, dI) vwCl (n_W aC q0 q1 u1 u2) H) : va_at (dC, dI) vwCl (n_ad q0 q1 u1 u2 83, q_cl ((dC, dI, aC, n_ad q0 q1 u1 u2) : q_E) n_mu 83) H := by
  have h := hP _ _ (n_e83 aC q0 q1 u1 u2)
  rw [q_cl_o q_k83 (by decide)]
  exact h
set_option maxRecDepth 20000 in
theorem n_e84 (aC : Nat → ClassId) (q0 q1 : Nat) (u1 u2 : Nat → Nat) : (n_W aC q0 q1 u1 u2)[n_pos 84]? = some (n_ad q0 q1 u1 u2 84, .inr (8, [.ref (u1 50)])) := rfl
set_option maxRecDepth 20000 in
theorem n_v84 (dC : Nat → ClassId) (dI : Nat → Nat → Nat) (aC : Nat → ClassId) (q0 q1 : Nat) (u1 u2 : Nat → Nat) {H : Heap} (hP : va_P (dC, dI) vwCl (n_W aC q0 q1 u1 u2) H) : va_at (dC, dI) vwCl (n_ad q0 q1 u1 u2 84, q_cl ((dC, dI, aC, n_ad q0 q1 u1 u2) : q_E) n_mu 84) H := by
  have h := hP _ _ (n_e84 aC q0 q1 u1 u2)
  rw [q_cl_o q_k84 (by decide)]
  exact h
set_option maxRecDepth 20000 in
theorem n_e85 (aC : Nat → ClassId) (q0 q1 : Nat) (u1 u2 : Nat → Nat) : (n_W aC q0 q1 u1 u2)[n_pos 85]? = some (n_ad q0 q1 u1 u2 85, .inr (8, [.ref (u1 41)])) := rfl
set_option maxRecDepth 20000 in
theorem n_v85 (dC : Nat → ClassId) (dI : Nat → Nat → Nat) (aC : Nat → ClassId) (q0 q1 : Nat) (u1 u2 : Nat → Nat) {H : Heap} (hP : va_P (dC, dI) vwCl (n_W aC q0 q1 u1 u2) H) : va_at (dC, dI) vwCl (n_ad q0 q1 u1 u2 85, q_cl ((dC, dI, aC, n_ad q0 q1 u1 u2) : q_E) n_mu 85) H := by
  have h := hP _ _ (n_e85 aC q0 q1 u1 u2)
  rw [q_cl_o q_k85 (by decide)]
  exact h
set_option maxRecDepth 20000 in
theorem n_e86 (aC : Nat → ClassId) (q0 q1 : Nat) (u1 u2 : Nat → Nat) : (n_W aC q0 q1 u1 u2)[n_pos 86]? = some (n_ad q0 q1 u1 u2 86, .inr (8, [.ref (u1 32)])) := rfl
set_option maxRecDepth 20000 in
theorem n_v86 (dC : Nat → ClassId) (dI : Nat → Nat → Nat) (aC : Nat → ClassId) (q0 q1 : Nat) (u1 u2 : Nat → Nat) {H : Heap} (hP : va_P (dC, dI) vwCl (n_W aC q0 q1 u1 u2) H) : va_at (dC, dI) vwCl (n_ad q0 q1 u1 u2 86, q_cl ((dC, dI, aC, n_ad q0 q1 u1 u2) : q_E) n_mu 86) H := by
  have h := hP _ _ (n_e86 aC q0 q1 u1 u2)
  rw [q_cl_o q_k86 (by decide)]
  exact h
set_option maxRecDepth 20000 in
theorem n_e87 (aC : Nat → ClassId) (q0 q1 : Nat) (u1 u2 : Nat → Nat) : (n_W aC q0 q1 u1 u2)[n_pos 87]? = some (n_ad q0 q1 u1 u2 87, .inr (8, [.ref (u1 125)])) := rfl
set_option maxRecDepth 20000 in
theorem n_v87 (dC : Nat → ClassId) (dI : Nat → Nat → Nat) (aC : Nat → ClassId) (q0 q1 : Nat) (u1 u2 : Nat → Nat) {H : Heap} (hP : va_P (dC, dI) vwCl (n_W aC q0 q1 u1 u2) H) : va_at (dC, dI) vwCl (n_ad q0 q1 u1 u2 87, q_cl ((dC, dI, aC, n_ad q0 q1 u1 u2) : q_E) n_mu 87) H := by
  have h := hP _ _ (n_e87 aC q0 q1 u1 u2)
  rw [q_cl_o q_k87 (by decide)]
  exact h
set_option maxRecDepth 20000 in
theorem n_e88 (aC : Nat → ClassId) (q0 q1 : Nat) (u1 u2 : Nat → Nat) : (n_W aC q0 q1 u1 u2)[n_pos 88]? = some (n_ad q0 q1 u1 u2 88, .inr (8, [.ref (u1 76)])) := rfl
set_option maxRecDepth 20000 in
theorem n_v88 (dC : Nat → ClassId) (dI : Nat → Nat → Nat) (aC : Nat → ClassId) (q0 q1 : Nat) (u1 u2 : Nat → Nat) {H : Heap} (hP : va_P (dC, dI) vwCl (n_W aC q0 q1 u1 u2) H) : va_at (dC, dI) vwCl (n_ad q0 q1 u1 u2 88, q_cl ((dC, dI, aC, n_ad q0 q1 u1 u2) : q_E) n_mu 88) H := by
  have h := hP _ _ (n_e88 aC q0 q1 u1 u2)
  rw [q_cl_o q_k88 (by decide)]
  exact h
set_option maxRecDepth 20000 in
theorem n_e89 (aC : Nat → ClassId) (q0 q1 : Nat) (u1 u2 : Nat → Nat) : (n_W aC q0 q1 u1 u2)[n_pos 89]? = some (n_ad q0 q1 u1 u2 89, .inr (8, [.ref (u1 67)])) := rfl
set_option maxRecDepth 20000 in
theorem n_v89 (dC : Nat → ClassId) (dI : Nat → Nat → Nat) (aC : Nat → ClassId) (q0 q1 : Nat) (u1 u2 : Nat → Nat) {H : Heap} (hP : va_P (dC, dI) vwCl (n_W aC q0 q1 u1 u2) H) : va_at (dC, dI) vwCl (n_ad q0 q1 u1 u2 89, q_cl ((dC, dI, aC, n_ad q0 q1 u1 u2) : q_E) n_mu 89) H := by
  have h := hP _ _ (n_e89 aC q0 q1 u1 u2)
  rw [q_cl_o q_k89 (by decide)]
  exact h
set_option maxRecDepth 20000 in
theorem n_e90 (aC : Nat → ClassId) (q0 q1 : Nat) (u1 u2 : Nat → Nat) : (n_W aC q0 q1 u1 u2)[n_pos 90]? = some (n_ad q0 q1 u1 u2 90, .inr (8, [.ref (u1 58)])) := rfl
set_option maxRecDepth 20000 in
theorem n_v90 (dC : Nat → ClassId) (dI : Nat → Nat → Nat) (aC : Nat → ClassId) (q0 q1 : Nat) (u1 u2 : Nat → Nat) {H : Heap} (hP : va_P (dC, dI) vwCl (n_W aC q0 q1 u1 u2) H) : va_at (dC, dI) vwCl (n_ad q0 q1 u1 u2 90, q_cl ((dC, dI, aC, n_ad q0 q1 u1 u2) : q_E) n_mu 90) H := by
  have h := hP _ _ (n_e90 aC q0 q1 u1 u2)
  rw [q_cl_o q_k90 (by decide)]
  exact h
set_option maxRecDepth 20000 in
theorem n_e91 (aC : Nat → ClassId) (q0 q1 : Nat) (u1 u2 : Nat → Nat) : (n_W aC q0 q1 u1 u2)[n_pos 91]? = some (n_ad q0 q1 u1 u2 91, .inr (8, [.ref (u1 49)])) := rfl
set_option maxRecDepth 20000 in
theorem n_v91 (dC : Nat → ClassId) (dI : Nat → Nat → Nat) (aC : Nat → ClassId) (q0 q1 : Nat) (u1 u2 : Nat → Nat) {H : Heap} (hP : va_P (dC, dI) vwCl (n_W aC q0 q1 u1 u2) H) : va_at (dC, dI) vwCl (n_ad q0 q1 u1 u2 91, q_cl ((dC, dI, aC, n_ad q0 q1 u1 u2) : q_E) n_mu 91) H := by
  have h := hP _ _ (n_e91 aC q0 q1 u1 u2)
  rw [q_cl_o q_k91 (by decide)]
  exact h
set_option maxRecDepth 20000 in
theorem n_e92 (aC : Nat → ClassId) (q0 q1 : Nat) (u1 u2 : Nat → Nat) : (n_W aC q0 q1 u1 u2)[n_pos 92]? = some (n_ad q0 q1 u1 u2 92, .inr (8, [.ref (u1 40)])) := rfl
set_option maxRecDepth 20000 in
theorem n_v92 (dC : Nat → ClassId) (dI : Nat → Nat → Nat) (aC : Nat → ClassId) (q0 q1 : Nat) (u1 u2 : Nat → Nat) {H : Heap} (hP : va_P (dC, dI) vwCl (n_W aC q0 q1 u1 u2) H) : va_at (dC, dI) vwCl (n_ad q0 q1 u1 u2 92, q_cl ((dC, dI, aC, n_ad q0 q1 u1 u2) : q_E) n_mu 92) H := by
  have h := hP _ _ (n_e92 aC q0 q1 u1 u2)
  rw [q_cl_o q_k92 (by decide)]
  exact h
set_option maxRecDepth 20000 in
theorem n_e93 (aC : Nat → ClassId) (q0 q1 : Nat) (u1 u2 : Nat → Nat) : (n_W aC q0 q1 u1 u2)[n_pos 93]? = some (n_ad q0 q1 u1 u2 93, .inr (8, [.ref (u1 31)])) := rfl
set_option maxRecDepth 20000 in
theorem n_v93 (dC : Nat → ClassId) (dI : Nat → Nat → Nat) (aC : Nat → ClassId) (q0 q1 : Nat) (u1 u2 : Nat → Nat) {H : Heap} (hP : va_P (dC, dI) vwCl (n_W aC q0 q1 u1 u2) H) : va_at (dC, dI) vwCl (n_ad q0 q1 u1 u2 93, q_cl ((dC, dI, aC, n_ad q0 q1 u1 u2) : q_E) n_mu 93) H := by
  have h := hP _ _ (n_e93 aC q0 q1 u1 u2)
  rw [q_cl_o q_k93 (by decide)]
  exact h
set_option maxRecDepth 20000 in
theorem n_e94 (aC : Nat → ClassId) (q0 q1 : Nat) (u1 u2 : Nat → Nat) : (n_W aC q0 q1 u1 u2)[n_pos 94]? = some (n_ad q0 q1 u1 u2 94, .inr (8, [.ref (u1 124)])) := rfl
set_option maxRecDepth 20000 in
theorem n_v94 (dC : Nat → ClassId) (dI : Nat → Nat → Nat) (aC : Nat → ClassId) (q0 q1 : Nat) (u1 u2 : Nat → Nat) {H : Heap} (hP : va_P (dC, dI) vwCl (n_W aC q0 q1 u1 u2) H) : va_at (dC, dI) vwCl (n_ad q0 q1 u1 u2 94, q_cl ((dC, dI, aC, n_ad q0 q1 u1 u2) : q_E) n_mu 94) H := by
  have h := hP _ _ (n_e94 aC q0 q1 u1 u2)
  rw [q_cl_o q_k94 (by decide)]
  exact h
set_option maxRecDepth 20000 in
theorem n_e95 (aC : Nat → ClassId) (q0 q1 : Nat) (u1 u2 : Nat → Nat) : (n_W aC q0 q1 u1 u2)[n_pos 95]? = some (n_ad q0 q1 u1 u2 95, .inr (8, [.ref (u1 130)])) := rfl
set_option maxRecDepth 20000 in
theorem n_v95 (dC : Nat → ClassId) (dI : Nat → Nat → Nat) (aC : Nat → ClassId) (q0 q1 : Nat) (u1 u2 : Nat → Nat) {H : Heap} (hP : va_P (dC, dI) vwCl (n_W aC q0 q1 u1 u2) H) : va_at (dC, dI) vwCl (n_ad q0 q1 u1 u2 95, q_cl ((dC, dI, aC, n_ad q0 q1 u1 u2) : q_E) n_mu 95) H := by
  have h := hP _ _ (n_e95 aC q0 q1 u1 u2)
  rw [q_cl_o q_k95 (by decide)]
  exact h
set_option maxRecDepth 20000 in
theorem n_e96 (aC : Nat → ClassId) (q0 q1 : Nat) (u1 u2 : Nat → Nat) : (n_W aC q0 q1 u1 u2)[n_pos 96]? = some (n_ad q0 q1 u1 u2 96, .inr (8, [.ref (u1 128)])) := rfl
set_option maxRecDepth 20000 in
theorem n_v96 (dC : Nat → ClassId) (dI : Nat → Nat → Nat) (aC : Nat → ClassId) (q0 q1 : Nat) (u1 u2 : Nat → Nat) {H : Heap} (hP : va_P (dC, dI) vwCl (n_W aC q0 q1 u1 u2) H) : va_at (dC, dI) vwCl (n_ad q0 q1 u1 u2 96, q_cl ((dC, dI, aC, n_ad q0 q1 u1 u2) : q_E) n_mu 96) H := by
  have h := hP _ _ (n_e96 aC q0 q1 u1 u2)
  rw [q_cl_o q_k96 (by decide)]
  exact h
set_option maxRecDepth 20000 in
theorem n_e97 (aC : Nat → ClassId) (q0 q1 : Nat) (u1 u2 : Nat → Nat) : (n_W aC q0 q1 u1 u2)[n_pos 97]? = some (n_ad q0 q1 u1 u2 97, .inl (aC 1, 4, .inr (.inl (fun _ => 0)))) := rfl
set_option maxRecDepth 20000 in
theorem n_v97 (dC : Nat → ClassId) (dI : Nat → Nat → Nat) (aC : Nat → ClassId) (q0 q1 : Nat) (u1 u2 : Nat → Nat) {H : Heap} (hP : va_P (dC, dI) vwCl (n_W aC q0 q1 u1 u2) H) : va_at (dC, dI) vwCl (n_ad q0 q1 u1 u2 97, q_cl ((dC, dI, aC, n_ad q0 q1 u1 u2) : q_E) n_mu 97) H := by
  have h := hP _ _ (n_e97 aC q0 q1 u1 u2)
  rw [q_cl_l q_k97 q_n97]
  exact h
set_option maxRecDepth 20000 in
theorem n_e98 (aC : Nat → ClassId) (q0 q1 : Nat) (u1 u2 : Nat → Nat) : (n_W aC q0 q1 u1 u2)[n_pos 98]? = some (n_ad q0 q1 u1 u2 98, .inl (aC 1, 4, .inr (.inl (fun _ => 0)))) := rfl
set_option maxRecDepth 20000 in
theorem n_v98 (dC : Nat → ClassId) (dI : Nat → Nat → Nat) (aC : Nat → ClassId) (q0 q1 : Nat) (u1 u2 : Nat → Nat) {H : Heap} (hP : va_P (dC, dI) vwCl (n_W aC q0 q1 u1 u2) H) : va_at (dC, dI) vwCl (n_ad q0 q1 u1 u2 98, q_cl ((dC, dI, aC, n_ad q0 q1 u1 u2) : q_E) n_mu 98) H := by
  have h := hP _ _ (n_e98 aC q0 q1 u1 u2)
  rw [q_cl_l q_k98 q_n98]
  exact h
set_option maxRecDepth 20000 in
theorem n_e99 (aC : Nat → ClassId) (q0 q1 : Nat) (u1 u2 : Nat → Nat) : (n_W aC q0 q1 u1 u2)[n_pos 99]? = some (n_ad q0 q1 u1 u2 99, .inl (aC 1, 4, .inr (.inl (fun _ => 0)))) := rfl
set_option maxRecDepth 20000 in
theorem n_v99 (dC : Nat → ClassId) (dI : Nat → Nat → Nat) (aC : Nat → ClassId) (q0 q1 : Nat) (u1 u2 : Nat → Nat) {H : Heap} (hP : va_P (dC, dI) vwCl (n_W aC q0 q1 u1 u2) H) : va_at (dC, dI) vwCl (n_ad q0 q1 u1 u2 99, q_cl ((dC, dI, aC, n_ad q0 q1 u1 u2) : q_E) n_mu 99) H := by
  have h := hP _ _ (n_e99 aC q0 q1 u1 u2)
  rw [q_cl_l q_k99 q_n99]
  exact h
set_option maxRecDepth 20000 in
theorem n_e100 (aC : Nat → ClassId) (q0 q1 : Nat) (u1 u2 : Nat → Nat) : (n_W aC q0 q1 u1 u2)[n_pos 100]? = some (n_ad q0 q1 u1 u2 100, .inl (aC 1, 4, .inr (.inl (fun _ => 0)))) := rfl
set_option maxRecDepth 20000 in
theorem n_v100 (dC : Nat → ClassId) (dI : Nat → Nat → Nat) (aC : Nat → ClassId) (q0 q1 : Nat) (u1 u2 : Nat → Nat) {H : Heap} (hP : va_P (dC, dI) vwCl (n_W aC q0 q1 u1 u2) H) : va_at (dC, dI) vwCl (n_ad q0 q1 u1 u2 100, q_cl ((dC, dI, aC, n_ad q0 q1 u1 u2) : q_E) n_mu 100) H := by
  have h := hP _ _ (n_e100 aC q0 q1 u1 u2)
  rw [q_cl_l q_k100 q_n100]
  exact h
set_option maxRecDepth 20000 in
theorem n_e101 (aC : Nat → ClassId) (q0 q1 : Nat) (u1 u2 : Nat → Nat) : (n_W aC q0 q1 u1 u2)[n_pos 101]? = some (n_ad q0 q1 u1 u2 101, .inl (aC 1, 4, .inr (.inl (fun _ => 0)))) := rfl
set_option maxRecDepth 20000 in
theorem n_v101 (dC : Nat → ClassId) (dI : Nat → Nat → Nat) (aC : Nat → ClassId) (q0 q1 : Nat) (u1 u2 : Nat → Nat) {H : Heap} (hP : va_P (dC, dI) vwCl (n_W aC q0 q1 u1 u2) H) : va_at (dC, dI) vwCl (n_ad q0 q1 u1 u2 101, q_cl ((dC, dI, aC, n_ad q0 q1 u1 u2) : q_E) n_mu 101) H := by
  have h := hP _ _ (n_e101 aC q0 q1 u1 u2)
  rw [q_cl_l q_k101 q_n101]
  exact h
set_option maxRecDepth 20000 in
theorem n_e102 (aC : Nat → ClassId) (q0 q1 : Nat) (u1 u2 : Nat → Nat) : (n_W aC q0 q1 u1 u2)[n_pos 102]? = some (n_ad q0 q1 u1 u2 102, .inl (aC 1, 4, .inr (.inl (fun _ => 0)))) := rfl
set_option maxRecDepth 20000 in
theorem n_v102 (dC : Nat → ClassId) (dI : Nat → Nat → Nat) (aC : Nat → ClassId) (q0 q1 : Nat) (u1 u2 : Nat → Nat) {H : Heap} (hP : va_P (dC, dI) vwCl (n_W aC q0 q1 u1 u2) H) : va_at (dC, dI) vwCl (n_ad q0 q1 u1 u2 102, q_cl ((dC, dI, aC, n_ad q0 q1 u1 u2) : q_E) n_mu 102) H := by
  have h := hP _ _ (n_e102 aC q0 q1 u1 u2)
  rw [q_cl_l q_k102 q_n102]
  exact h
set_option maxRecDepth 20000 in
theorem n_e103 (aC : Nat → ClassId) (q0 q1 : Nat) (u1 u2 : Nat → Nat) : (n_W aC q0 q1 u1 u2)[n_pos 103]? = some (n_ad q0 q1 u1 u2 103, .inl (aC 1, 4, .inr (.inl (fun _ => 0)))) := rfl
set_option maxRecDepth 20000 in
theorem n_v103 (dC : Nat → ClassId) (dI : Nat → Nat → Nat) (aC : Nat → ClassId) (q0 q1 : Nat) (u1 u2 : Nat → Nat) {H : Heap} (hP : va_P (dC, dI) vwCl (n_W aC q0 q1 u1 u2) H) : va_at (dC, dI) vwCl (n_ad q0 q1 u1 u2 103, q_cl ((dC, dI, aC, n_ad q0 q1 u1 u2) : q_E) n_mu 103) H := by
  have h := hP _ _ (n_e103 aC q0 q1 u1 u2)
  rw [q_cl_l q_k103 q_n103]
  exact h
set_option maxRecDepth 20000 in
theorem n_e104 (aC : Nat → ClassId) (q0 q1 : Nat) (u1 u2 : Nat → Nat) : (n_W aC q0 q1 u1 u2)[n_pos 104]? = some (n_ad q0 q1 u1 u2 104, .inl (aC 1, 4, .inr (.inl n_one))) := rfl
set_option maxRecDepth 20000 in
theorem n_v104 (dC : Nat → ClassId) (dI : Nat → Nat → Nat) (aC : Nat → ClassId) (q0 q1 : Nat) (u1 u2 : Nat → Nat) {H : Heap} (hP : va_P (dC, dI) vwCl (n_W aC q0 q1 u1 u2) H) : va_at (dC, dI) vwCl (n_ad q0 q1 u1 u2 104, q_cl ((dC, dI, aC, n_ad q0 q1 u1 u2) : q_E) n_mu 104) H := by
  have h := hP _ _ (n_e104 aC q0 q1 u1 u2)
  rw [q_cl_l q_k104 q_n104]
  exact h
set_option maxRecDepth 20000 in
theorem n_e105 (aC : Nat → ClassId) (q0 q1 : Nat) (u1 u2 : Nat → Nat) : (n_W aC q0 q1 u1 u2)[n_pos 105]? = some (n_ad q0 q1 u1 u2 105, .inl (aC 1, 4, .inr (.inl n_one))) := rfl
set_option maxRecDepth 20000 in
theorem n_v105 (dC : Nat → ClassId) (dI : Nat → Nat → Nat) (aC : Nat → ClassId) (q0 q1 : Nat) (u1 u2 : Nat → Nat) {H : Heap} (hP : va_P (dC, dI) vwCl (n_W aC q0 q1 u1 u2) H) : va_at (dC, dI) vwCl (n_ad q0 q1 u1 u2 105, q_cl ((dC, dI, aC, n_ad q0 q1 u1 u2) : q_E) n_mu 105) H := by
  have h := hP _ _ (n_e105 aC q0 q1 u1 u2)
  rw [q_cl_l q_k105 q_n105]
  exact h
set_option maxRecDepth 20000 in
theorem n_e106 (aC : Nat → ClassId) (q0 q1 : Nat) (u1 u2 : Nat → Nat) : (n_W aC q0 q1 u1 u2)[n_pos 106]? = some (n_ad q0 q1 u1 u2 106, .inl (aC 1, 4, .inr (.inl n_one))) := rfl
set_option maxRecDepth 20000 in
theorem n_v106 (dC : Nat → ClassId) (dI : Nat → Nat → Nat) (aC : Nat → ClassId) (q0 q1 : Nat) (u1 u2 : Nat → Nat) {H : Heap} (hP : va_P (dC, dI) vwCl (n_W aC q0 q1 u1 u2) H) : va_at (dC, dI) vwCl (n_ad q0 q1 u1 u2 106, q_cl ((dC, dI, aC, n_ad q0 q1 u1 u2) : q_E) n_mu 106) H := by
  have h := hP _ _ (n_e106 aC q0 q1 u1 u2)
  rw [q_cl_l q_k106 q_n106]
  exact h
set_option maxRecDepth 20000 in
theorem n_e107 (aC : Nat → ClassId) (q0 q1 : Nat) (u1 u2 : Nat → Nat) : (n_W aC q0 q1 u1 u2)[n_pos 107]? = some (n_ad q0 q1 u1 u2 107, .inl (aC 1, 4, .inr (.inl n_one))) := rfl
set_option maxRecDepth 20000 in
theorem n_v107 (dC : Nat → ClassId) (dI : Nat → Nat → Nat) (aC : Nat → ClassId) (q0 q1 : Nat) (u1 u2 : Nat → Nat) {H : Heap} (hP : va_P (dC, dI) vwCl (n_W aC q0 q1 u1 u2) H) : va_at (dC, dI) vwCl (n_ad q0 q1 u1 u2 107, q_cl ((dC, dI, aC, n_ad q0 q1 u1 u2) : q_E) n_mu 107) H := by
  have h := hP _ _ (n_e107 aC q0 q1 u1 u2)
  rw [q_cl_l q_k107 q_n107]
  exact h
set_option maxRecDepth 20000 in
theorem n_e108 (aC : Nat → ClassId) (q0 q1 : Nat) (u1 u2 : Nat → Nat) : (n_W aC q0 q1 u1 u2)[n_pos 108]? = some (n_ad q0 q1 u1 u2 108, .inl (aC 1, 4, .inr (.inl n_one))) := rfl
set_option maxRecDepth 20000 in
theorem n_v108 (dC : Nat → ClassId) (dI : Nat → Nat → Nat) (aC : Nat → ClassId) (q0 q1 : Nat) (u1 u2 : Nat → Nat) {H : Heap} (hP : va_P (dC, dI) vwCl (n_W aC q0 q1 u1 u2) H) : va_at (dC, dI) vwCl (n_ad q0 q1 u1 u2 108, q_cl ((dC, dI, aC, n_ad q0 q1 u1 u2) : q_E) n_mu 108) H := by
  have h := hP _ _ (n_e108 aC q0 q1 u1 u2)
  rw [q_cl_l q_k108 q_n108]
  exact h
set_option maxRecDepth 20000 in
theorem n_e109 (aC : Nat → ClassId) (q0 q1 : Nat) (u1 u2 : Nat → Nat) : (n_W aC q0 q1 u1 u2)[n_pos 109]? = some (n_ad q0 q1 u1 u2 109, .inl (aC 1, 4, .inr (.inl n_one))) := rfl
set_option maxRecDepth 20000 in
theorem n_v109 (dC : Nat → ClassId) (dI : Nat → Nat → Nat) (aC : Nat → ClassId) (q0 q1 : Nat) (u1 u2 : Nat → Nat) {H : Heap} (hP : va_P (dC, dI) vwCl (n_W aC q0 q1 u1 u2) H) : va_at (dC, dI) vwCl (n_ad q0 q1 u1 u2 109, q_cl ((dC, dI, aC, n_ad q0 q1 u1 u2) : q_E) n_mu 109) H := by
  have h := hP _ _ (n_e109 aC q0 q1 u1 u2)
  rw [q_cl_l q_k109 q_n109]
  exact h
set_option maxRecDepth 20000 in
theorem n_e110 (aC : Nat → ClassId) (q0 q1 : Nat) (u1 u2 : Nat → Nat) : (n_W aC q0 q1 u1 u2)[n_pos 110]? = some (n_ad q0 q1 u1 u2 110, .inl (aC 1, 4, .inr (.inl n_one))) := rfl
set_option maxRecDepth 20000 in
theorem n_v110 (dC : Nat → ClassId) (dI : Nat → Nat → Nat) (aC : Nat → ClassId) (q0 q1 : Nat) (u1 u2 : Nat → Nat) {H : Heap} (hP : va_P (dC, dI) vwCl (n_W aC q0 q1 u1 u2) H) : va_at (dC, dI) vwCl (n_ad q0 q1 u1 u2 110, q_cl ((dC, dI, aC, n_ad q0 q1 u1 u2) : q_E) n_mu 110) H := by
  have h := hP _ _ (n_e110 aC q0 q1 u1 u2)
  rw [q_cl_l q_k110 q_n110]
  exact h
set_option maxRecDepth 20000 in
theorem n_e111 (aC : Nat → ClassId) (q0 q1 : Nat) (u1 u2 : Nat → Nat) : (n_W aC q0 q1 u1 u2)[n_pos 111]? = some (n_ad q0 q1 u1 u2 111, .inl (aC 1, 4, .inr (.inl (fun _ => 0)))) := rfl
set_option maxRecDepth 20000 in
theorem n_v111 (dC : Nat → ClassId) (dI : Nat → Nat → Nat) (aC : Nat → ClassId) (q0 q1 : Nat) (u1 u2 : Nat → Nat) {H : Heap} (hP : va_P (dC, dI) vwCl (n_W aC q0 q1 u1 u2) H) : va_at (dC, dI) vwCl (n_ad q0 q1 u1 u2 111, q_cl ((dC, dI, aC, n_ad q0 q1 u1 u2) : q_E) n_mu 111) H := by
  have h := hP _ _ (n_e111 aC q0 q1 u1 u2)
  rw [q_cl_l q_k111 q_n111]
  exact h
set_option maxRecDepth 20000 in
theorem n_e112 (aC : Nat → ClassId) (q0 q1 : Nat) (u1 u2 : Nat → Nat) : (n_W aC q0 q1 u1 u2)[n_pos 112]? = some (n_ad q0 q1 u1 u2 112, .inl (aC 1, 4, .inr (.inl (fun _ => 0)))) := rfl
set_option maxRecDepth 20000 in
theorem n_v112 (dC : Nat → ClassId) (dI : Nat → Nat → Nat) (aC : Nat → ClassId) (q0 q1 : Nat) (u1 u2 : Nat → Nat) {H : Heap} (hP : va_P (dC, dI) vwCl (n_W aC q0 q1 u1 u2) H) : va_at (dC, dI) vwCl (n_ad q0 q1 u1 u2 112, q_cl ((dC, dI, aC, n_ad q0 q1 u1 u2) : q_E) n_mu 112) H := by
  have h := hP _ _ (n_e112 aC q0 q1 u1 u2)
  rw [q_cl_l q_k112 q_n112]
  exact h
set_option maxRecDepth 20000 in
theorem n_e113 (aC : Nat → ClassId) (q0 q1 : Nat) (u1 u2 : Nat → Nat) : (n_W aC q0 q1 u1 u2)[n_pos 113]? = some (n_ad q0 q1 u1 u2 113, .inr (7, [.ref (u1 16), .ref (u1 15), .int 0, .int 0, .int 0, .int 0])) := rfl
set_option maxRecDepth 20000 in
theorem n_v113 (dC : Nat → ClassId) (dI : Nat → Nat → Nat) (aC : Nat → ClassId) (q0 q1 : Nat) (u1 u2 : Nat → Nat) {H : Heap} (hP : va_P (dC, dI) vwCl (n_W aC q0 q1 u1 u2) H) : va_at (dC, dI) vwCl (n_ad q0 q1 u1 u2 113, q_cl ((dC, dI, aC, n_ad q0 q1 u1 u2) : q_E) n_mu 113) H := by
  have h := hP _ _ (n_e113 aC q0 q1 u1 u2)
  rw [q_cl_o q_k113 (by decide)]
  exact h
set_option maxRecDepth 20000 in
theorem n_e114 (aC : Nat → ClassId) (q0 q1 : Nat) (u1 u2 : Nat → Nat) : (n_W aC q0 q1 u1 u2)[n_pos 114]? = some (n_ad q0 q1 u1 u2 114, .inr (7, [.ref (u1 13), .ref (u1 12), .int 0, .int 0, .int 0, .int 0])) := rfl
set_option maxRecDepth 20000 in
theorem n_v114 (dC : Nat → ClassId) (dI : Nat → Nat → Nat) (aC : Nat → ClassId) (q0 q1 : Nat) (u1 u2 : Nat → Nat) {H : Heap} (hP : va_P (dC, dI) vwCl (n_W aC q0 q1 u1 u2) H) : va_at (dC, dI) vwCl (n_ad q0 q1 u1 u2 114, q_cl ((dC, dI, aC, n_ad q0 q1 u1 u2) : q_E) n_mu 114) H := by
  have h := hP _ _ (n_e114 aC q0 q1 u1 u2)
  rw [q_cl_o q_k114 (by decide)]
  exact h
set_option maxRecDepth 20000 in
theorem n_e115 (aC : Nat → ClassId) (q0 q1 : Nat) (u1 u2 : Nat → Nat) : (n_W aC q0 q1 u1 u2)[n_pos 115]? = some (n_ad q0 q1 u1 u2 115, .inr (7, [.ref (u1 10), .ref (u1 9), .int 0, .int 0, .int 0, .int 0])) := rfl
set_option maxRecDepth 20000 in
theorem n_v115 (dC : Nat → ClassId) (dI : Nat → Nat → Nat) (aC : Nat → ClassId) (q0 q1 : Nat) (u1 u2 : Nat → Nat) {H : Heap} (hP : va_P (dC, dI) vwCl (n_W aC q0 q1 u1 u2) H) : va_at (dC, dI) vwCl (n_ad q0 q1 u1 u2 115, q_cl ((dC, dI, aC, n_ad q0 q1 u1 u2) : q_E) n_mu 115) H := by
  have h := hP _ _ (n_e115 aC q0 q1 u1 u2)
  rw [q_cl_o q_k115 (by decide)]
  exact h
set_option maxRecDepth 20000 in
theorem n_e116 (aC : Nat → ClassId) (q0 q1 : Nat) (u1 u2 : Nat → Nat) : (n_W aC q0 q1 u1 u2)[n_pos 116]? = some (n_ad q0 q1 u1 u2 116, .inr (7, [.ref (u1 7), .ref (u1 6), .int 0, .int 0, .int 0, .int 0])) := rfl
set_option maxRecDepth 20000 in
theorem n_v116 (dC : Nat → ClassId) (dI : Nat → Nat → Nat) (aC : Nat → ClassId) (q0 q1 : Nat) (u1 u2 : Nat → Nat) {H : Heap} (hP : va_P (dC, dI) vwCl (n_W aC q0 q1 u1 u2) H) : va_at (dC, dI) vwCl (n_ad q0 q1 u1 u2 116, q_cl ((dC, dI, aC, n_ad q0 q1 u1 u2) : q_E) n_mu 116) H := by
  have h := hP _ _ (n_e116 aC q0 q1 u1 u2)
  rw [q_cl_o q_k116 (by decide)]
  exact h
set_option maxRecDepth 20000 in
theorem n_e117 (aC : Nat → ClassId) (q0 q1 : Nat) (u1 u2 : Nat → Nat) : (n_W aC q0 q1 u1 u2)[n_pos 117]? = some (n_ad q0 q1 u1 u2 117, .inr (7, [.ref (u1 4), .ref (u1 3), .int 0, .int 0, .int 0, .int 0])) := rfl
set_option maxRecDepth 20000 in
theorem n_v117 (dC : Nat → ClassId) (dI : Nat → Nat → Nat) (aC : Nat → ClassId) (q0 q1 : Nat) (u1 u2 : Nat → Nat) {H : Heap} (hP : va_P (dC, dI) vwCl (n_W aC q0 q1 u1 u2) H) : va_at (dC, dI) vwCl (n_ad q0 q1 u1 u2 117, q_cl ((dC, dI, aC, n_ad q0 q1 u1 u2) : q_E) n_mu 117) H := by
  have h := hP _ _ (n_e117 aC q0 q1 u1 u2)
  rw [q_cl_o q_k117 (by decide)]
  exact h
set_option maxRecDepth 20000 in
theorem n_e118 (aC : Nat → ClassId) (q0 q1 : Nat) (u1 u2 : Nat → Nat) : (n_W aC q0 q1 u1 u2)[n_pos 118]? = some (n_ad q0 q1 u1 u2 118, .inr (7, [.ref (u1 25), .ref (u1 24), .int 0, .int 0, .int 0, .int 0])) := rfl
set_option maxRecDepth 20000 in
theorem n_v118 (dC : Nat → ClassId) (dI : Nat → Nat → Nat) (aC : Nat → ClassId) (q0 q1 : Nat) (u1 u2 : Nat → Nat) {H : Heap} (hP : va_P (dC, dI) vwCl (n_W aC q0 q1 u1 u2) H) : va_at (dC, dI) vwCl (n_ad q0 q1 u1 u2 118, q_cl ((dC, dI, aC, n_ad q0 q1 u1 u2) : q_E) n_mu 118) H := by
  have h := hP _ _ (n_e118 aC q0 q1 u1 u2)
  rw [q_cl_o q_k118 (by decide)]
  exact h
set_option maxRecDepth 20000 in
theorem n_e119 (aC : Nat → ClassId) (q0 q1 : Nat) (u1 u2 : Nat → Nat) : (n_W aC q0 q1 u1 u2)[n_pos 119]? = some (n_ad q0 q1 u1 u2 119, .inr (7, [.ref (u1 22), .ref (u1 21), .int 0, .int 0, .int 0, .int 0])) := rfl
set_option maxRecDepth 20000 in
theorem n_v119 (dC : Nat → ClassId) (dI : Nat → Nat → Nat) (aC : Nat → ClassId) (q0 q1 : Nat) (u1 u2 : Nat → Nat) {H : Heap} (hP : va_P (dC, dI) vwCl (n_W aC q0 q1 u1 u2) H) : va_at (dC, dI) vwCl (n_ad q0 q1 u1 u2 119, q_cl ((dC, dI, aC, n_ad q0 q1 u1 u2) : q_E) n_mu 119) H := by
  have h := hP _ _ (n_e119 aC q0 q1 u1 u2)
  rw [q_cl_o q_k119 (by decide)]
  exact h
set_option maxRecDepth 20000 in
theorem n_e120 (aC : Nat → ClassId) (q0 q1 : Nat) (u1 u2 : Nat → Nat) : (n_W aC q0 q1 u1 u2)[n_pos 120]? = some (n_ad q0 q1 u1 u2 120, .inr (7, [.ref (u1 19), .ref (u1 18), .int 0, .int 0, .int 0, .int 0])) := rfl
set_option maxRecDepth 20000 in
theorem n_v120 (dC : Nat → ClassId) (dI : Nat → Nat → Nat) (aC : Nat → ClassId) (q0 q1 : Nat) (u1 u2 : Nat → Nat) {H : Heap} (hP : va_P (dC, dI) vwCl (n_W aC q0 q1 u1 u2) H) : va_at (dC, dI) vwCl (n_ad q0 q1 u1 u2 120, q_cl ((dC, dI, aC, n_ad q0 q1 u1 u2) : q_E) n_mu 120) H := by
  have h := hP _ _ (n_e120 aC q0 q1 u1 u2)
  rw [q_cl_o q_k120 (by decide)]
  exact h
set_option maxRecDepth 20000 in
theorem n_e121 (aC : Nat → ClassId) (q0 q1 : Nat) (u1 u2 : Nat → Nat) : (n_W aC q0 q1 u1 u2)[n_pos 121]? = some (n_ad q0 q1 u1 u2 121, .inl (aC 0, 6, .inl (fun _ => 0))) := rfl
set_option maxRecDepth 20000 in
theorem n_v121 (dC : Nat → ClassId) (dI : Nat → Nat → Nat) (aC : Nat → ClassId) (q0 q1 : Nat) (u1 u2 : Nat → Nat) {H : Heap} (hP : va_P (dC, dI) vwCl (n_W aC q0 q1 u1 u2) H) : va_at (dC, dI) vwCl (n_ad q0 q1 u1 u2 121, q_cl ((dC, dI, aC, n_ad q0 q1 u1 u2) : q_E) n_mu 121) H := by
  have h := hP _ _ (n_e121 aC q0 q1 u1 u2)
  rw [q_cl_i q_k121 q_n121]
  exact h
set_option maxRecDepth 20000 in
theorem n_e122 (aC : Nat → ClassId) (q0 q1 : Nat) (u1 u2 : Nat → Nat) : (n_W aC q0 q1 u1 u2)[n_pos 122]? = some (n_ad q0 q1 u1 u2 122, .inl (aC 0, 6, .inl (fun _ => 0))) := rfl
set_option maxRecDepth 20000 in
theorem n_v122 (dC : Nat → ClassId) (dI : Nat → Nat → Nat) (aC : Nat → ClassId) (q0 q1 : Nat) (u1 u2 : Nat → Nat) {H : Heap} (hP : va_P (dC, dI) vwCl (n_W aC q0 q1 u1 u2) H) : va_at (dC, dI) vwCl (n_ad q0 q1 u1 u2 122, q_cl ((dC, dI, aC, n_ad q0 q1 u1 u2) : q_E) n_mu 122) H := by
  have h := hP _ _ (n_e122 aC q0 q1 u1 u2)
  rw [q_cl_i q_k122 q_n122]
  exact h
set_option maxRecDepth 20000 in
theorem n_e123 (aC : Nat → ClassId) (q0 q1 : Nat) (u1 u2 : Nat → Nat) : (n_W aC q0 q1 u1 u2)[n_pos 123]? = some (n_ad q0 q1 u1 u2 123, .inl (aC 0, 6, .inl (fun _ => 0))) := rfl
set_option maxRecDepth 20000 in
theorem n_v123 (dC : Nat → ClassId) (dI : Nat → Nat → Nat) (aC : Nat → ClassId) (q0 q1 : Nat) (u1 u2 : Nat → Nat) {H : Heap} (hP : va_P (dC, dI) vwCl (n_W aC q0 q1 u1 u2) H) : va_at (dC, dI) vwCl (n_ad q0 q1 u1 u2 123, q_cl ((dC, dI, aC, n_ad q0 q1 u1 u2) : q_E) n_mu 123) H := by
  have h := hP _ _ (n_e123 aC q0 q1 u1 u2)
  rw [q_cl_i q_k123 q_n123]
  exact h
set_option maxRecDepth 20000 in
theorem n_e124 (aC : Nat → ClassId) (q0 q1 : Nat) (u1 u2 : Nat → Nat) : (n_W aC q0 q1 u1 u2)[n_pos 124]? = some (n_ad q0 q1 u1 u2 124, .inl (aC 0, 6, .inl (fun _ => 0))) := rfl
set_option maxRecDepth 20000 in
theorem n_v124 (dC : Nat → ClassId) (dI : Nat → Nat → Nat) (aC : Nat → ClassId) (q0 q1 : Nat) (u1 u2 : Nat → Nat) {H : Heap} (hP : va_P (dC, dI) vwCl (n_W aC q0 q1 u1 u2) H) : va_at (dC, dI) vwCl (n_ad q0 q1 u1 u2 124, q_cl ((dC, dI, aC, n_ad q0 q1 u1 u2) : q_E) n_mu 124) H := by
  have h := hP _ _ (n_e124 aC q0 q1 u1 u2)
  rw [q_cl_i q_k124 q_n124]
  exact h
set_option maxRecDepth 20000 in
theorem n_e125 (aC : Nat → ClassId) (q0 q1 : Nat) (u1 u2 : Nat → Nat) : (n_W aC q0 q1 u1 u2)[n_pos 125]? = some (n_ad q0 q1 u1 u2 125, .inl (aC 0, 6, .inl (fun _ => 0))) := rfl
set_option maxRecDepth 20000 in
theorem n_v125 (dC : Nat → ClassId) (dI : Nat → Nat → Nat) (aC : Nat → ClassId) (q0 q1 : Nat) (u1 u2 : Nat → Nat) {H : Heap} (hP : va_P (dC, dI) vwCl (n_W aC q0 q1 u1 u2) H) : va_at (dC, dI) vwCl (n_ad q0 q1 u1 u2 125, q_cl ((dC, dI, aC, n_ad q0 q1 u1 u2) : q_E) n_mu 125) H := by
  have h := hP _ _ (n_e125 aC q0 q1 u1 u2)
  rw [q_cl_i q_k125 q_n125]
  exact h
set_option maxRecDepth 20000 in
theorem n_e126 (aC : Nat → ClassId) (q0 q1 : Nat) (u1 u2 : Nat → Nat) : (n_W aC q0 q1 u1 u2)[n_pos 126]? = some (n_ad q0 q1 u1 u2 126, .inl (aC 0, 6, .inl (fun _ => 0))) := rfl
set_option maxRecDepth 20000 in
theorem n_v126 (dC : Nat → ClassId) (dI : Nat → Nat → Nat) (aC : Nat → ClassId) (q0 q1 : Nat) (u1 u2 : Nat → Nat) {H : Heap} (hP : va_P (dC, dI) vwCl (n_W aC q0 q1 u1 u2) H) : va_at (dC, dI) vwCl (n_ad q0 q1 u1 u2 126, q_cl ((dC, dI, aC, n_ad q0 q1 u1 u2) : q_E) n_mu 126) H := by
  have h := hP _ _ (n_e126 aC q0 q1 u1 u2)
  rw [q_cl_i q_k126 q_n126]
  exact h
set_option maxRecDepth 20000 in
theorem n_e127 (aC : Nat → ClassId) (q0 q1 : Nat) (u1 u2 : Nat → Nat) : (n_W aC q0 q1 u1 u2)[n_pos 127]? = some (n_ad q0 q1 u1 u2 127, .inl (aC 0, 6, .inl (fun _ => 0))) := rfl
set_option maxRecDepth 20000 in
theorem n_v127 (dC : Nat → ClassId) (dI : Nat → Nat → Nat) (aC : Nat → ClassId) (q0 q1 : Nat) (u1 u2 : Nat → Nat) {H : Heap} (hP : va_P (dC, dI) vwCl (n_W aC q0 q1 u1 u2) H) : va_at (dC, dI) vwCl (n_ad q0 q1 u1 u2 127, q_cl ((dC, dI, aC, n_ad q0 q1 u1 u2) : q_E) n_mu 127) H := by
  have h := hP _ _ (n_e127 aC q0 q1 u1 u2)
  rw [q_cl_i q_k127 q_n127]
  exact h
set_option maxRecDepth 20000 in
theorem n_e128 (aC : Nat → ClassId) (q0 q1 : Nat) (u1 u2 : Nat → Nat) : (n_W aC q0 q1 u1 u2)[n_pos 128]? = some (n_ad q0 q1 u1 u2 128, .inl (aC 0, 6, .inl (fun _ => 0))) := rfl
set_option maxRecDepth 20000 in
theorem n_v128 (dC : Nat → ClassId) (dI : Nat → Nat → Nat) (aC : Nat → ClassId) (q0 q1 : Nat) (u1 u2 : Nat → Nat) {H : Heap} (hP : va_P (dC, dI) vwCl (n_W aC q0 q1 u1 u2) H) : va_at (dC, dI) vwCl (n_ad q0 q1 u1 u2 128, q_cl ((dC, dI, aC, n_ad q0 q1 u1 u2) : q_E) n_mu 128) H := by
  have h := hP _ _ (n_e128 aC q0 q1 u1 u2)
  rw [q_cl_i q_k128 q_n128]
  exact h
set_option maxRecDepth 20000 in
theorem n_e129 (aC : Nat → ClassId) (q0 q1 : Nat) (u1 u2 : Nat → Nat) : (n_W aC q0 q1 u1 u2)[n_pos 129]? = some (n_ad q0 q1 u1 u2 129, .inl (aC 0, 6, .inl (fun _ => 0))) := rfl
set_option maxRecDepth 20000 in
theorem n_v129 (dC : Nat → ClassId) (dI : Nat → Nat → Nat) (aC : Nat → ClassId) (q0 q1 : Nat) (u1 u2 : Nat → Nat) {H : Heap} (hP : va_P (dC, dI) vwCl (n_W aC q0 q1 u1 u2) H) : va_at (dC, dI) vwCl (n_ad q0 q1 u1 u2 129, q_cl ((dC, dI, aC, n_ad q0 q1 u1 u2) : q_E) n_mu 129) H := by
  have h := hP _ _ (n_e129 aC q0 q1 u1 u2)
  rw [q_cl_i q_k129 q_n129]
  exact h
set_option maxRecDepth 20000 in
theorem n_e130 (aC : Nat → ClassId) (q0 q1 : Nat) (u1 u2 : Nat → Nat) : (n_W aC q0 q1 u1 u2)[n_pos 130]? = some (n_ad q0 q1 u1 u2 130, .inl (aC 0, 6, .inl (fun _ => 0))) := rfl
set_option maxRecDepth 20000 in
theorem n_v130 (dC : Nat → ClassId) (dI : Nat → Nat → Nat) (aC : Nat → ClassId) (q0 q1 : Nat) (u1 u2 : Nat → Nat) {H : Heap} (hP : va_P (dC, dI) vwCl (n_W aC q0 q1 u1 u2) H) : va_at (dC, dI) vwCl (n_ad q0 q1 u1 u2 130, q_cl ((dC, dI, aC, n_ad q0 q1 u1 u2) : q_E) n_mu 130) H := by
  have h := hP _ _ (n_e130 aC q0 q1 u1 u2)
  rw [q_cl_i q_k130 q_n130]
  exact h
set_option maxRecDepth 20000 in
theorem n_e131 (aC : Nat → ClassId) (q0 q1 : Nat) (u1 u2 : Nat → Nat) : (n_W aC q0 q1 u1 u2)[n_pos 131]? = some (n_ad q0 q1 u1 u2 131, .inl (aC 0, 6, .inl (fun _ => 0))) := rfl
set_option maxRecDepth 20000 in
theorem n_v131 (dC : Nat → ClassId) (dI : Nat → Nat → Nat) (aC : Nat → ClassId) (q0 q1 : Nat) (u1 u2 : Nat → Nat) {H : Heap} (hP : va_P (dC, dI) vwCl (n_W aC q0 q1 u1 u2) H) : va_at (dC, dI) vwCl (n_ad q0 q1 u1 u2 131, q_cl ((dC, dI, aC, n_ad q0 q1 u1 u2) : q_E) n_mu 131) H := by
  have h := hP _ _ (n_e131 aC q0 q1 u1 u2)
  rw [q_cl_i q_k131 q_n131]
  exact h
set_option maxRecDepth 20000 in
theorem n_e132 (aC : Nat → ClassId) (q0 q1 : Nat) (u1 u2 : Nat → Nat) : (n_W aC q0 q1 u1 u2)[n_pos 132]? = some (n_ad q0 q1 u1 u2 132, .inl (aC 0, 6, .inl (fun _ => 0))) := rfl
set_option maxRecDepth 20000 in
theorem n_v132 (dC : Nat → ClassId) (dI : Nat → Nat → Nat) (aC : Nat → ClassId) (q0 q1 : Nat) (u1 u2 : Nat → Nat) {H : Heap} (hP : va_P (dC, dI) vwCl (n_W aC q0 q1 u1 u2) H) : va_at (dC, dI) vwCl (n_ad q0 q1 u1 u2 132, q_cl ((dC, dI, aC, n_ad q0 q1 u1 u2) : q_E) n_mu 132) H := by
  have h := hP _ _ (n_e132 aC q0 q1 u1 u2)
  rw [q_cl_i q_k132 q_n132]
  exact h
set_option maxRecDepth 20000 in
theorem n_e133 (aC : Nat → ClassId) (q0 q1 : Nat) (u1 u2 : Nat → Nat) : (n_W aC q0 q1 u1 u2)[n_pos 133]? = some (n_ad q0 q1 u1 u2 133, .inl (aC 0, 6, .inl (fun _ => 0))) := rfl
set_option maxRecDepth 20000 in
theorem n_v133 (dC : Nat → ClassId) (dI : Nat → Nat → Nat) (aC : Nat → ClassId) (q0 q1 : Nat) (u1 u2 : Nat → Nat) {H : Heap} (hP : va_P (dC, dI) vwCl (n_W aC q0 q1 u1 u2) H) : va_at (dC, dI) vwCl (n_ad q0 q1 u1 u2 133, q_cl ((dC, dI, aC, n_ad q0 q1 u1 u2) : q_E) n_mu 133) H := by
  have h := hP _ _ (n_e133 aC q0 q1 u1 u2)
  rw [q_cl_i q_k133 q_n133]
  exact h
set_option maxRecDepth 20000 in
theorem n_e134 (aC : Nat → ClassId) (q0 q1 : Nat) (u1 u2 : Nat → Nat) : (n_W aC q0 q1 u1 u2)[n_pos 134]? = some (n_ad q0 q1 u1 u2 134, .inl (aC 0, 6, .inl (fun _ => 0))) := rfl
set_option maxRecDepth 20000 in
theorem n_v134 (dC : Nat → ClassId) (dI : Nat → Nat → Nat) (aC : Nat → ClassId) (q0 q1 : Nat) (u1 u2 : Nat → Nat) {H : Heap} (hP : va_P (dC, dI) vwCl (n_W aC q0 q1 u1 u2) H) : va_at (dC, dI) vwCl (n_ad q0 q1 u1 u2 134, q_cl ((dC, dI, aC, n_ad q0 q1 u1 u2) : q_E) n_mu 134) H := by
  have h := hP _ _ (n_e134 aC q0 q1 u1 u2)
  rw [q_cl_i q_k134 q_n134]
  exact h
set_option maxRecDepth 20000 in
theorem n_e135 (aC : Nat → ClassId) (q0 q1 : Nat) (u1 u2 : Nat → Nat) : (n_W aC q0 q1 u1 u2)[n_pos 135]? = some (n_ad q0 q1 u1 u2 135, .inl (aC 0, 6, .inl (fun _ => 0))) := rfl
set_option maxRecDepth 20000 in
theorem n_v135 (dC : Nat → ClassId) (dI : Nat → Nat → Nat) (aC : Nat → ClassId) (q0 q1 : Nat) (u1 u2 : Nat → Nat) {H : Heap} (hP : va_P (dC, dI) vwCl (n_W aC q0 q1 u1 u2) H) : va_at (dC, dI) vwCl (n_ad q0 q1 u1 u2 135, q_cl ((dC, dI, aC, n_ad q0 q1 u1 u2) : q_E) n_mu 135) H := by
  have h := hP _ _ (n_e135 aC q0 q1 u1 u2)
  rw [q_cl_i q_k135 q_n135]
  exact h
set_option maxRecDepth 20000 in
theorem n_e136 (aC : Nat → ClassId) (q0 q1 : Nat) (u1 u2 : Nat → Nat) : (n_W aC q0 q1 u1 u2)[n_pos 136]? = some (n_ad q0 q1 u1 u2 136, .inl (aC 0, 6, .inl (fun _ => 0))) := rfl
set_option maxRecDepth 20000 in
theorem n_v136 (dC : Nat → ClassId) (dI : Nat → Nat → Nat) (aC : Nat → ClassId) (q0 q1 : Nat) (u1 u2 : Nat → Nat) {H : Heap} (hP : va_P (dC, dI) vwCl (n_W aC q0 q1 u1 u2) H) : va_at (dC, dI) vwCl (n_ad q0 q1 u1 u2 136, q_cl ((dC, dI, aC, n_ad q0 q1 u1 u2) : q_E) n_mu 136) H := by
  have h := hP _ _ (n_e136 aC q0 q1 u1 u2)
  rw [q_cl_i q_k136 q_n136]
  exact h
set_option maxRecDepth 20000 in
theorem n_e137 (aC : Nat → ClassId) (q0 q1 : Nat) (u1 u2 : Nat → Nat) : (n_W aC q0 q1 u1 u2)[n_pos 137]? = some (n_ad q0 q1 u1 u2 137, .inr (10, [.int 0, .int 0, .ref (u2 26), .ref (u2 25), .ref (u2 24), .ref (u2 23), .ref (u2 22), .ref (u2 21), .ref (u2 20), .ref (u2 19), .ref (u2 18), .ref (u2 17), .ref (u2 16), .int 0, .ref (u2 15), .ref (u2 14), .ref (u2 13), .ref (u2 12), .ref (u2 11), .int 0, .ref (u2 10), .ref (u2 9), .int 1, .int 1, .int 0, .int 0, .int 0, .int 0, .int 0, .ref (u2 8), .ref (u2 7), .int 0, .ref (u2 6), .ref (u2 5), .int 0, .ref (u2 4), .ref (u2 3), .int 0, .int 0, .int 0, .int 0, .long 0, .long 0, .long 0, .long 0, .long 0, .long 0, .long 0, .long 0, .long 0, .long 0, .ref (u2 2), .ref (u2 1), .ref (u2 0)])) := rfl
set_option maxRecDepth 20000 in
theorem n_v137 (dC : Nat → ClassId) (dI : Nat → Nat → Nat) (aC : Nat → ClassId) (q0 q1 : Nat) (u1 u2 : Nat → Nat) {H : Heap} (hP : va_P (dC, dI) vwCl (n_W aC q0 q1 u1 u2) H) : va_at (dC, dI) vwCl (n_ad q0 q1 u1 u2 137, q_cl ((dC, dI, aC, n_ad q0 q1 u1 u2) : q_E) n_mu 137) H := by
  have h := hP _ _ (n_e137 aC q0 q1 u1 u2)
  rw [q_cl_o q_k137 (by decide)]
  exact h
set_option maxRecDepth 20000 in
theorem n_e138 (aC : Nat → ClassId) (q0 q1 : Nat) (u1 u2 : Nat → Nat) : (n_W aC q0 q1 u1 u2)[n_pos 138]? = some (n_ad q0 q1 u1 u2 138, .inl (aC 0, 12, .inl (fun _ => 0))) := rfl
set_option maxRecDepth 20000 in
theorem n_v138 (dC : Nat → ClassId) (dI : Nat → Nat → Nat) (aC : Nat → ClassId) (q0 q1 : Nat) (u1 u2 : Nat → Nat) {H : Heap} (hP : va_P (dC, dI) vwCl (n_W aC q0 q1 u1 u2) H) : va_at (dC, dI) vwCl (n_ad q0 q1 u1 u2 138, q_cl ((dC, dI, aC, n_ad q0 q1 u1 u2) : q_E) n_mu 138) H := by
  have h := hP _ _ (n_e138 aC q0 q1 u1 u2)
  rw [q_cl_i q_k138 q_n138]
  exact h
set_option maxRecDepth 20000 in
theorem n_e139 (aC : Nat → ClassId) (q0 q1 : Nat) (u1 u2 : Nat → Nat) : (n_W aC q0 q1 u1 u2)[n_pos 139]? = some (n_ad q0 q1 u1 u2 139, .inl (aC 0, 12, .inl (fun _ => 0))) := rfl
set_option maxRecDepth 20000 in
theorem n_v139 (dC : Nat → ClassId) (dI : Nat → Nat → Nat) (aC : Nat → ClassId) (q0 q1 : Nat) (u1 u2 : Nat → Nat) {H : Heap} (hP : va_P (dC, dI) vwCl (n_W aC q0 q1 u1 u2) H) : va_at (dC, dI) vwCl (n_ad q0 q1 u1 u2 139, q_cl ((dC, dI, aC, n_ad q0 q1 u1 u2) : q_E) n_mu 139) H := by
  have h := hP _ _ (n_e139 aC q0 q1 u1 u2)
  rw [q_cl_i q_k139 q_n139]
  exact h
set_option maxRecDepth 20000 in
theorem n_e140 (aC : Nat → ClassId) (q0 q1 : Nat) (u1 u2 : Nat → Nat) : (n_W aC q0 q1 u1 u2)[n_pos 140]? = some (n_ad q0 q1 u1 u2 140, .inl (aC 0, 12, .inl (fun _ => 0))) := rfl
set_option maxRecDepth 20000 in
theorem n_v140 (dC : Nat → ClassId) (dI : Nat → Nat → Nat) (aC : Nat → ClassId) (q0 q1 : Nat) (u1 u2 : Nat → Nat) {H : Heap} (hP : va_P (dC, dI) vwCl (n_W aC q0 q1 u1 u2) H) : va_at (dC, dI) vwCl (n_ad q0 q1 u1 u2 140, q_cl ((dC, dI, aC, n_ad q0 q1 u1 u2) : q_E) n_mu 140) H := by
  have h := hP _ _ (n_e140 aC q0 q1 u1 u2)
  rw [q_cl_i q_k140 q_n140]
  exact h
set_option maxRecDepth 20000 in
theorem n_e141 (aC : Nat → ClassId) (q0 q1 : Nat) (u1 u2 : Nat → Nat) : (n_W aC q0 q1 u1 u2)[n_pos 141]? = some (n_ad q0 q1 u1 u2 141, .inl (aC 0, 12, .inl (fun _ => 0))) := rfl
set_option maxRecDepth 20000 in
theorem n_v141 (dC : Nat → ClassId) (dI : Nat → Nat → Nat) (aC : Nat → ClassId) (q0 q1 : Nat) (u1 u2 : Nat → Nat) {H : Heap} (hP : va_P (dC, dI) vwCl (n_W aC q0 q1 u1 u2) H) : va_at (dC, dI) vwCl (n_ad q0 q1 u1 u2 141, q_cl ((dC, dI, aC, n_ad q0 q1 u1 u2) : q_E) n_mu 141) H := by
  have h := hP _ _ (n_e141 aC q0 q1 u1 u2)
  rw [q_cl_i q_k141 q_n141]
  exact h
set_option maxRecDepth 20000 in
theorem n_e142 (aC : Nat → ClassId) (q0 q1 : Nat) (u1 u2 : Nat → Nat) : (n_W aC q0 q1 u1 u2)[n_pos 142]? = some (n_ad q0 q1 u1 u2 142, .inl (aC 0, 12, .inl (fun _ => 0))) := rfl
set_option maxRecDepth 20000 in
theorem n_v142 (dC : Nat → ClassId) (dI : Nat → Nat → Nat) (aC : Nat → ClassId) (q0 q1 : Nat) (u1 u2 : Nat → Nat) {H : Heap} (hP : va_P (dC, dI) vwCl (n_W aC q0 q1 u1 u2) H) : va_at (dC, dI) vwCl (n_ad q0 q1 u1 u2 142, q_cl ((dC, dI, aC, n_ad q0 q1 u1 u2) : q_E) n_mu 142) H := by
  have h := hP _ _ (n_e142 aC q0 q1 u1 u2)
  rw [q_cl_i q_k142 q_n142]
  exact h
set_option maxRecDepth 20000 in
theorem n_e143 (aC : Nat → ClassId) (q0 q1 : Nat) (u1 u2 : Nat → Nat) : (n_W aC q0 q1 u1 u2)[n_pos 143]? = some (n_ad q0 q1 u1 u2 143, .inl (aC 2, 12, .inl (fun _ => 0))) := rfl
set_option maxRecDepth 20000 in
theorem n_v143 (dC : Nat → ClassId) (dI : Nat → Nat → Nat) (aC : Nat → ClassId) (q0 q1 : Nat) (u1 u2 : Nat → Nat) {H : Heap} (hP : va_P (dC, dI) vwCl (n_W aC q0 q1 u1 u2) H) : va_at (dC, dI) vwCl (n_ad q0 q1 u1 u2 143, q_cl ((dC, dI, aC, n_ad q0 q1 u1 u2) : q_E) n_mu 143) H := by
  have h := hP _ _ (n_e143 aC q0 q1 u1 u2)
  rw [q_cl_z q_k143 q_n143]
  exact h
set_option maxRecDepth 20000 in
theorem n_e144 (aC : Nat → ClassId) (q0 q1 : Nat) (u1 u2 : Nat → Nat) : (n_W aC q0 q1 u1 u2)[n_pos 144]? = some (n_ad q0 q1 u1 u2 144, .inl (aC 0, 12, .inl (fun _ => 0))) := rfl
set_option maxRecDepth 20000 in
theorem n_v144 (dC : Nat → ClassId) (dI : Nat → Nat → Nat) (aC : Nat → ClassId) (q0 q1 : Nat) (u1 u2 : Nat → Nat) {H : Heap} (hP : va_P (dC, dI) vwCl (n_W aC q0 q1 u1 u2) H) : va_at (dC, dI) vwCl (n_ad q0 q1 u1 u2 144, q_cl ((dC, dI, aC, n_ad q0 q1 u1 u2) : q_E) n_mu 144) H := by
  have h := hP _ _ (n_e144 aC q0 q1 u1 u2)
  rw [q_cl_i q_k144 q_n144]
  exact h
set_option maxRecDepth 20000 in
theorem n_e145 (aC : Nat → ClassId) (q0 q1 : Nat) (u1 u2 : Nat → Nat) : (n_W aC q0 q1 u1 u2)[n_pos 145]? = some (n_ad q0 q1 u1 u2 145, .inl (aC 0, 12, .inl (fun _ => 0))) := rfl
set_option maxRecDepth 20000 in
theorem n_v145 (dC : Nat → ClassId) (dI : Nat → Nat → Nat) (aC : Nat → ClassId) (q0 q1 : Nat) (u1 u2 : Nat → Nat) {H : Heap} (hP : va_P (dC, dI) vwCl (n_W aC q0 q1 u1 u2) H) : va_at (dC, dI) vwCl (n_ad q0 q1 u1 u2 145, q_cl ((dC, dI, aC, n_ad q0 q1 u1 u2) : q_E) n_mu 145) H := by
  have h := hP _ _ (n_e145 aC q0 q1 u1 u2)
  rw [q_cl_i q_k145 q_n145]
  exact h
set_option maxRecDepth 20000 in
theorem n_e146 (aC : Nat → ClassId) (q0 q1 : Nat) (u1 u2 : Nat → Nat) : (n_W aC q0 q1 u1 u2)[n_pos 146]? = some (n_ad q0 q1 u1 u2 146, .inl (aC 0, 36, .inl (fun _ => 0))) := rfl
set_option maxRecDepth 20000 in
theorem n_v146 (dC : Nat → ClassId) (dI : Nat → Nat → Nat) (aC : Nat → ClassId) (q0 q1 : Nat) (u1 u2 : Nat → Nat) {H : Heap} (hP : va_P (dC, dI) vwCl (n_W aC q0 q1 u1 u2) H) : va_at (dC, dI) vwCl (n_ad q0 q1 u1 u2 146, q_cl ((dC, dI, aC, n_ad q0 q1 u1 u2) : q_E) n_mu 146) H := by
  have h := hP _ _ (n_e146 aC q0 q1 u1 u2)
  rw [q_cl_i q_k146 q_n146]
  exact h
set_option maxRecDepth 20000 in
theorem n_e147 (aC : Nat → ClassId) (q0 q1 : Nat) (u1 u2 : Nat → Nat) : (n_W aC q0 q1 u1 u2)[n_pos 147]? = some (n_ad q0 q1 u1 u2 147, .inl (aC 0, 36, .inl (fun _ => 0))) := rfl
set_option maxRecDepth 20000 in
theorem n_v147 (dC : Nat → ClassId) (dI : Nat → Nat → Nat) (aC : Nat → ClassId) (q0 q1 : Nat) (u1 u2 : Nat → Nat) {H : Heap} (hP : va_P (dC, dI) vwCl (n_W aC q0 q1 u1 u2) H) : va_at (dC, dI) vwCl (n_ad q0 q1 u1 u2 147, q_cl ((dC, dI, aC, n_ad q0 q1 u1 u2) : q_E) n_mu 147) H := by
  have h := hP _ _ (n_e147 aC q0 q1 u1 u2)
  rw [q_cl_i q_k147 q_n147]
  exact h
set_option maxRecDepth 20000 in
theorem n_e148 (aC : Nat → ClassId) (q0 q1 : Nat) (u1 u2 : Nat → Nat) : (n_W aC q0 q1 u1 u2)[n_pos 148]? = some (n_ad q0 q1 u1 u2 148, .inl (aC 2, 144, .inl (fun _ => 0))) := rfl
set_option maxRecDepth 20000 in
theorem n_v148 (dC : Nat → ClassId) (dI : Nat → Nat → Nat) (aC : Nat → ClassId) (q0 q1 : Nat) (u1 u2 : Nat → Nat) {H : Heap} (hP : va_P (dC, dI) vwCl (n_W aC q0 q1 u1 u2) H) : va_at (dC, dI) vwCl (n_ad q0 q1 u1 u2 148, q_cl ((dC, dI, aC, n_ad q0 q1 u1 u2) : q_E) n_mu 148) H := by
  have h := hP _ _ (n_e148 aC q0 q1 u1 u2)
  rw [q_cl_z q_k148 q_n148]
  exact h
set_option maxRecDepth 20000 in
theorem n_e149 (aC : Nat → ClassId) (q0 q1 : Nat) (u1 u2 : Nat → Nat) : (n_W aC q0 q1 u1 u2)[n_pos 149]? = some (n_ad q0 q1 u1 u2 149, .inl (aC 2, 6, .inl (fun _ => 0))) := rfl
set_option maxRecDepth 20000 in
theorem n_v149 (dC : Nat → ClassId) (dI : Nat → Nat → Nat) (aC : Nat → ClassId) (q0 q1 : Nat) (u1 u2 : Nat → Nat) {H : Heap} (hP : va_P (dC, dI) vwCl (n_W aC q0 q1 u1 u2) H) : va_at (dC, dI) vwCl (n_ad q0 q1 u1 u2 149, q_cl ((dC, dI, aC, n_ad q0 q1 u1 u2) : q_E) n_mu 149) H := by
  have h := hP _ _ (n_e149 aC q0 q1 u1 u2)
  rw [q_cl_z q_k149 q_n149]
  exact h
set_option maxRecDepth 20000 in
theorem n_e150 (aC : Nat → ClassId) (q0 q1 : Nat) (u1 u2 : Nat → Nat) : (n_W aC q0 q1 u1 u2)[n_pos 150]? = some (n_ad q0 q1 u1 u2 150, .inl (aC 0, 6, .inl (fun _ => 0))) := rfl
set_option maxRecDepth 20000 in
theorem n_v150 (dC : Nat → ClassId) (dI : Nat → Nat → Nat) (aC : Nat → ClassId) (q0 q1 : Nat) (u1 u2 : Nat → Nat) {H : Heap} (hP : va_P (dC, dI) vwCl (n_W aC q0 q1 u1 u2) H) : va_at (dC, dI) vwCl (n_ad q0 q1 u1 u2 150, q_cl ((dC, dI, aC, n_ad q0 q1 u1 u2) : q_E) n_mu 150) H := by
  have h := hP _ _ (n_e150 aC q0 q1 u1 u2)
  rw [q_cl_i q_k150 q_n150]
  exact h
set_option maxRecDepth 20000 in
theorem n_e151 (aC : Nat → ClassId) (q0 q1 : Nat) (u1 u2 : Nat → Nat) : (n_W aC q0 q1 u1 u2)[n_pos 151]? = some (n_ad q0 q1 u1 u2 151, .inl (aC 0, 36, .inl (fun _ => 0))) := rfl
set_option maxRecDepth 20000 in
theorem n_v151 (dC : Nat → ClassId) (dI : Nat → Nat → Nat) (aC : Nat → ClassId) (q0 q1 : Nat) (u1 u2 : Nat → Nat) {H : Heap} (hP : va_P (dC, dI) vwCl (n_W aC q0 q1 u1 u2) H) : va_at (dC, dI) vwCl (n_ad q0 q1 u1 u2 151, q_cl ((dC, dI, aC, n_ad q0 q1 u1 u2) : q_E) n_mu 151) H := by
  have h := hP _ _ (n_e151 aC q0 q1 u1 u2)
  rw [q_cl_i q_k151 q_n151]
  exact h
set_option maxRecDepth 20000 in
theorem n_e152 (aC : Nat → ClassId) (q0 q1 : Nat) (u1 u2 : Nat → Nat) : (n_W aC q0 q1 u1 u2)[n_pos 152]? = some (n_ad q0 q1 u1 u2 152, .inl (aC 0, 36, .inl (fun _ => 0))) := rfl
set_option maxRecDepth 20000 in
theorem n_v152 (dC : Nat → ClassId) (dI : Nat → Nat → Nat) (aC : Nat → ClassId) (q0 q1 : Nat) (u1 u2 : Nat → Nat) {H : Heap} (hP : va_P (dC, dI) vwCl (n_W aC q0 q1 u1 u2) H) : va_at (dC, dI) vwCl (n_ad q0 q1 u1 u2 152, q_cl ((dC, dI, aC, n_ad q0 q1 u1 u2) : q_E) n_mu 152) H := by
  have h := hP _ _ (n_e152 aC q0 q1 u1 u2)
  rw [q_cl_i q_k152 q_n152]
  exact h
set_option maxRecDepth 20000 in
theorem n_e153 (aC : Nat → ClassId) (q0 q1 : Nat) (u1 u2 : Nat → Nat) : (n_W aC q0 q1 u1 u2)[n_pos 153]? = some (n_ad q0 q1 u1 u2 153, .inl (aC 0, 36, .inl (fun _ => 0))) := rfl
set_option maxRecDepth 20000 in
theorem n_v153 (dC : Nat → ClassId) (dI : Nat → Nat → Nat) (aC : Nat → ClassId) (q0 q1 : Nat) (u1 u2 : Nat → Nat) {H : Heap} (hP : va_P (dC, dI) vwCl (n_W aC q0 q1 u1 u2) H) : va_at (dC, dI) vwCl (n_ad q0 q1 u1 u2 153, q_cl ((dC, dI, aC, n_ad q0 q1 u1 u2) : q_E) n_mu 153) H := by
  have h := hP _ _ (n_e153 aC q0 q1 u1 u2)
  rw [q_cl_i q_k153 q_n153]
  exact h
set_option maxRecDepth 20000 in
theorem n_e154 (aC : Nat → ClassId) (q0 q1 : Nat) (u1 u2 : Nat → Nat) : (n_W aC q0 q1 u1 u2)[n_pos 154]? = some (n_ad q0 q1 u1 u2 154, .inl (aC 0, 5, .inl (fun _ => 0))) := rfl
set_option maxRecDepth 20000 in
theorem n_v154 (dC : Nat → ClassId) (dI : Nat → Nat → Nat) (aC : Nat → ClassId) (q0 q1 : Nat) (u1 u2 : Nat → Nat) {H : Heap} (hP : va_P (dC, dI) vwCl (n_W aC q0 q1 u1 u2) H) : va_at (dC, dI) vwCl (n_ad q0 q1 u1 u2 154, q_cl ((dC, dI, aC, n_ad q0 q1 u1 u2) : q_E) n_mu 154) H := by
  have h := hP _ _ (n_e154 aC q0 q1 u1 u2)
  rw [q_cl_i q_k154 q_n154]
  exact h
set_option maxRecDepth 20000 in
theorem n_e155 (aC : Nat → ClassId) (q0 q1 : Nat) (u1 u2 : Nat → Nat) : (n_W aC q0 q1 u1 u2)[n_pos 155]? = some (n_ad q0 q1 u1 u2 155, .inl (aC 0, 5, .inl (fun _ => 0))) := rfl
set_option maxRecDepth 20000 in
theorem n_v155 (dC : Nat → ClassId) (dI : Nat → Nat → Nat) (aC : Nat → ClassId) (q0 q1 : Nat) (u1 u2 : Nat → Nat) {H : Heap} (hP : va_P (dC, dI) vwCl (n_W aC q0 q1 u1 u2) H) : va_at (dC, dI) vwCl (n_ad q0 q1 u1 u2 155, q_cl ((dC, dI, aC, n_ad q0 q1 u1 u2) : q_E) n_mu 155) H := by
  have h := hP _ _ (n_e155 aC q0 q1 u1 u2)
  rw [q_cl_i q_k155 q_n155]
  exact h
set_option maxRecDepth 20000 in
theorem n_e156 (aC : Nat → ClassId) (q0 q1 : Nat) (u1 u2 : Nat → Nat) : (n_W aC q0 q1 u1 u2)[n_pos 156]? = some (n_ad q0 q1 u1 u2 156, .inl (aC 0, 60, .inl (fun _ => 0))) := rfl
set_option maxRecDepth 20000 in
theorem n_v156 (dC : Nat → ClassId) (dI : Nat → Nat → Nat) (aC : Nat → ClassId) (q0 q1 : Nat) (u1 u2 : Nat → Nat) {H : Heap} (hP : va_P (dC, dI) vwCl (n_W aC q0 q1 u1 u2) H) : va_at (dC, dI) vwCl (n_ad q0 q1 u1 u2 156, q_cl ((dC, dI, aC, n_ad q0 q1 u1 u2) : q_E) n_mu 156) H := by
  have h := hP _ _ (n_e156 aC q0 q1 u1 u2)
  rw [q_cl_i q_k156 q_n156]
  exact h
set_option maxRecDepth 20000 in
theorem n_e157 (aC : Nat → ClassId) (q0 q1 : Nat) (u1 u2 : Nat → Nat) : (n_W aC q0 q1 u1 u2)[n_pos 157]? = some (n_ad q0 q1 u1 u2 157, .inl (aC 0, 5, .inl (fun _ => 0))) := rfl
set_option maxRecDepth 20000 in
theorem n_v157 (dC : Nat → ClassId) (dI : Nat → Nat → Nat) (aC : Nat → ClassId) (q0 q1 : Nat) (u1 u2 : Nat → Nat) {H : Heap} (hP : va_P (dC, dI) vwCl (n_W aC q0 q1 u1 u2) H) : va_at (dC, dI) vwCl (n_ad q0 q1 u1 u2 157, q_cl ((dC, dI, aC, n_ad q0 q1 u1 u2) : q_E) n_mu 157) H := by
  have h := hP _ _ (n_e157 aC q0 q1 u1 u2)
  rw [q_cl_i q_k157 q_n157]
  exact h
set_option maxRecDepth 20000 in
theorem n_e158 (aC : Nat → ClassId) (q0 q1 : Nat) (u1 u2 : Nat → Nat) : (n_W aC q0 q1 u1 u2)[n_pos 158]? = some (n_ad q0 q1 u1 u2 158, .inl (aC 0, 50, .inl (fun _ => 0))) := rfl
set_option maxRecDepth 20000 in
theorem n_v158 (dC : Nat → ClassId) (dI : Nat → Nat → Nat) (aC : Nat → ClassId) (q0 q1 : Nat) (u1 u2 : Nat → Nat) {H : Heap} (hP : va_P (dC, dI) vwCl (n_W aC q0 q1 u1 u2) H) : va_at (dC, dI) vwCl (n_ad q0 q1 u1 u2 158, q_cl ((dC, dI, aC, n_ad q0 q1 u1 u2) : q_E) n_mu 158) H := by
  have h := hP _ _ (n_e158 aC q0 q1 u1 u2)
  rw [q_cl_i q_k158 q_n158]
  exact h
set_option maxRecDepth 20000 in
theorem n_e159 (aC : Nat → ClassId) (q0 q1 : Nat) (u1 u2 : Nat → Nat) : (n_W aC q0 q1 u1 u2)[n_pos 159]? = some (n_ad q0 q1 u1 u2 159, .inl (aC 0, 12, .inl (fun _ => 0))) := rfl
set_option maxRecDepth 20000 in
theorem n_v159 (dC : Nat → ClassId) (dI : Nat → Nat → Nat) (aC : Nat → ClassId) (q0 q1 : Nat) (u1 u2 : Nat → Nat) {H : Heap} (hP : va_P (dC, dI) vwCl (n_W aC q0 q1 u1 u2) H) : va_at (dC, dI) vwCl (n_ad q0 q1 u1 u2 159, q_cl ((dC, dI, aC, n_ad q0 q1 u1 u2) : q_E) n_mu 159) H := by
  have h := hP _ _ (n_e159 aC q0 q1 u1 u2)
  rw [q_cl_i q_k159 q_n159]
  exact h
set_option maxRecDepth 20000 in
theorem n_e160 (aC : Nat → ClassId) (q0 q1 : Nat) (u1 u2 : Nat → Nat) : (n_W aC q0 q1 u1 u2)[n_pos 160]? = some (n_ad q0 q1 u1 u2 160, .inl (aC 2, 7, .inl (fun _ => 0))) := rfl
set_option maxRecDepth 20000 in
theorem n_v160 (dC : Nat → ClassId) (dI : Nat → Nat → Nat) (aC : Nat → ClassId) (q0 q1 : Nat) (u1 u2 : Nat → Nat) {H : Heap} (hP : va_P (dC, dI) vwCl (n_W aC q0 q1 u1 u2) H) : va_at (dC, dI) vwCl (n_ad q0 q1 u1 u2 160, q_cl ((dC, dI, aC, n_ad q0 q1 u1 u2) : q_E) n_mu 160) H := by
  have h := hP _ _ (n_e160 aC q0 q1 u1 u2)
  rw [q_cl_z q_k160 q_n160]
  exact h
set_option maxRecDepth 20000 in
theorem n_e161 (aC : Nat → ClassId) (q0 q1 : Nat) (u1 u2 : Nat → Nat) : (n_W aC q0 q1 u1 u2)[n_pos 161]? = some (n_ad q0 q1 u1 u2 161, .inl (aC 0, 12, .inl (fun _ => 0))) := rfl
set_option maxRecDepth 20000 in
theorem n_v161 (dC : Nat → ClassId) (dI : Nat → Nat → Nat) (aC : Nat → ClassId) (q0 q1 : Nat) (u1 u2 : Nat → Nat) {H : Heap} (hP : va_P (dC, dI) vwCl (n_W aC q0 q1 u1 u2) H) : va_at (dC, dI) vwCl (n_ad q0 q1 u1 u2 161, q_cl ((dC, dI, aC, n_ad q0 q1 u1 u2) : q_E) n_mu 161) H := by
  have h := hP _ _ (n_e161 aC q0 q1 u1 u2)
  rw [q_cl_i q_k161 q_n161]
  exact h
set_option maxRecDepth 20000 in
theorem n_e162 (aC : Nat → ClassId) (q0 q1 : Nat) (u1 u2 : Nat → Nat) : (n_W aC q0 q1 u1 u2)[n_pos 162]? = some (n_ad q0 q1 u1 u2 162, .inl (aC 2, 12, .inl (fun _ => 0))) := rfl
set_option maxRecDepth 20000 in
theorem n_v162 (dC : Nat → ClassId) (dI : Nat → Nat → Nat) (aC : Nat → ClassId) (q0 q1 : Nat) (u1 u2 : Nat → Nat) {H : Heap} (hP : va_P (dC, dI) vwCl (n_W aC q0 q1 u1 u2) H) : va_at (dC, dI) vwCl (n_ad q0 q1 u1 u2 162, q_cl ((dC, dI, aC, n_ad q0 q1 u1 u2) : q_E) n_mu 162) H := by
  have h := hP _ _ (n_e162 aC q0 q1 u1 u2)
  rw [q_cl_z q_k162 q_n162]
  exact h
set_option maxRecDepth 20000 in
theorem n_e163 (aC : Nat → ClassId) (q0 q1 : Nat) (u1 u2 : Nat → Nat) : (n_W aC q0 q1 u1 u2)[n_pos 163]? = some (n_ad q0 q1 u1 u2 163, .inl (aC 0, 13, .inl (fun _ => 0))) := rfl
set_option maxRecDepth 20000 in
theorem n_v163 (dC : Nat → ClassId) (dI : Nat → Nat → Nat) (aC : Nat → ClassId) (q0 q1 : Nat) (u1 u2 : Nat → Nat) {H : Heap} (hP : va_P (dC, dI) vwCl (n_W aC q0 q1 u1 u2) H) : va_at (dC, dI) vwCl (n_ad q0 q1 u1 u2 163, q_cl ((dC, dI, aC, n_ad q0 q1 u1 u2) : q_E) n_mu 163) H := by
  have h := hP _ _ (n_e163 aC q0 q1 u1 u2)
  rw [q_cl_i q_k163 q_n163]
  exact h
set_option maxRecDepth 20000 in
theorem n_e164 (aC : Nat → ClassId) (q0 q1 : Nat) (u1 u2 : Nat → Nat) : (n_W aC q0 q1 u1 u2)[n_pos 164]? = some (n_ad q0 q1 u1 u2 164, .inl (aC 0, 13, .inl (fun _ => 0))) := rfl
set_option maxRecDepth 20000 in
theorem n_v164 (dC : Nat → ClassId) (dI : Nat → Nat → Nat) (aC : Nat → ClassId) (q0 q1 : Nat) (u1 u2 : Nat → Nat) {H : Heap} (hP : va_P (dC, dI) vwCl (n_W aC q0 q1 u1 u2) H) : va_at (dC, dI) vwCl (n_ad q0 q1 u1 u2 164, q_cl ((dC, dI, aC, n_ad q0 q1 u1 u2) : q_E) n_mu 164) H := by
  have h := hP _ _ (n_e164 aC q0 q1 u1 u2)
  rw [q_cl_i q_k164 q_n164]
  exact h
theorem n_vall (dC : Nat → ClassId) (dI : Nat → Nat → Nat) (aC : Nat → ClassId) (q0 q1 : Nat) (u1 u2 : Nat → Nat) {H : Heap} (hP : va_P (dC, dI) vwCl (n_W aC q0 q1 u1 u2) H) : ∀ k, k < 165 → va_at (dC, dI) vwCl (n_ad q0 q1 u1 u2 k, q_cl ((dC, dI, aC, n_ad q0 q1 u1 u2) : q_E) n_mu k) H := by
  intro k hk
  rcases Nat.lt_or_ge k 82 with g0_165 | g0_165
  · rcases Nat.lt_or_ge k 41 with g0_82 | g0_82
    · rcases Nat.lt_or_ge k 20 with g0_41 | g0_41
      · rcases Nat.lt_or_ge k 10 with g0_20 | g0_20
        · rcases Nat.lt_or_ge k 5 with g0_10 | g0_10
          · rcases Nat.lt_or_ge k 2 with g0_5 | g0_5
            · rcases Nat.lt_or_ge k 1 with g0_2 | g0_2
              · obtain rfl : k = 0 := by omega
                exact n_v0 dC dI aC q0 q1 u1 u2 hP
              · obtain rfl : k = 1 := by omega
                exact n_v1 dC dI aC q0 q1 u1 u2 hP
            · rcases Nat.lt_or_ge k 3 with g2_5 | g2_5
              · obtain rfl : k = 2 := by omega
                exact n_v2 dC dI aC q0 q1 u1 u2 hP
              · rcases Nat.lt_or_ge k 4 with g3_5 | g3_5
                · obtain rfl : k = 3 := by omega
                  exact n_v3 dC dI aC q0 q1 u1 u2 hP
                · obtain rfl : k = 4 := by omega
                  exact n_v4 dC dI aC q0 q1 u1 u2 hP
          · rcases Nat.lt_or_ge k 7 with g5_10 | g5_10
            · rcases Nat.lt_or_ge k 6 with g5_7 | g5_7
              · obtain rfl : k = 5 := by omega
                exact n_v5 dC dI aC q0 q1 u1 u2 hP
              · obtain rfl : k = 6 := by omega
                exact n_v6 dC dI aC q0 q1 u1 u2 hP
            · rcases Nat.lt_or_ge k 8 with g7_10 | g7_10
              · obtain rfl : k = 7 := by omega
                exact n_v7 dC dI aC q0 q1 u1 u2 hP
              · rcases Nat.lt_or_ge k 9 with g8_10 | g8_10
                · obtain rfl : k = 8 := by omega
                  exact n_v8 dC dI aC q0 q1 u1 u2 hP
                · obtain rfl : k = 9 := by omega
                  exact n_v9 dC dI aC q0 q1 u1 u2 hP
        · rcases Nat.lt_or_ge k 15 with g10_20 | g10_20
          · rcases Nat.lt_or_ge k 12 with g10_15 | g10_15
            · rcases Nat.lt_or_ge k 11 with g10_12 | g10_12
              · obtain rfl : k = 10 := by omega
                exact n_v10 dC dI aC q0 q1 u1 u2 hP
              · obtain rfl : k = 11 := by omega
                exact n_v11 dC dI aC q0 q1 u1 u2 hP
            · rcases Nat.lt_or_ge k 13 with g12_15 | g12_15
              · obtain rfl : k = 12 := by omega
                exact n_v12 dC dI aC q0 q1 u1 u2 hP
              · rcases Nat.lt_or_ge k 14 with g13_15 | g13_15
                · obtain rfl : k = 13 := by omega
                  exact n_v13 dC dI aC q0 q1 u1 u2 hP
                · obtain rfl : k = 14 := by omega
                  exact n_v14 dC dI aC q0 q1 u1 u2 hP
          · rcases Nat.lt_or_ge k 17 with g15_20 | g15_20
            · rcases Nat.lt_or_ge k 16 with g15_17 | g15_17
              · obtain rfl : k = 15 := by omega
                exact n_v15 dC dI aC q0 q1 u1 u2 hP
              · obtain rfl : k = 16 := by omega
                exact n_v16 dC dI aC q0 q1 u1 u2 hP
            · rcases Nat.lt_or_ge k 18 with g17_20 | g17_20
              · obtain rfl : k = 17 := by omega
                exact n_v17 dC dI aC q0 q1 u1 u2 hP
              · rcases Nat.lt_or_ge k 19 with g18_20 | g18_20
                · obtain rfl : k = 18 := by omega
                  exact n_v18 dC dI aC q0 q1 u1 u2 hP
                · obtain rfl : k = 19 := by omega
                  exact n_v19 dC dI aC q0 q1 u1 u2 hP
      · rcases Nat.lt_or_ge k 30 with g20_41 | g20_41
        · rcases Nat.lt_or_ge k 25 with g20_30 | g20_30
          · rcases Nat.lt_or_ge k 22 with g20_25 | g20_25
            · rcases Nat.lt_or_ge k 21 with g20_22 | g20_22
              · obtain rfl : k = 20 := by omega
                exact n_v20 dC dI aC q0 q1 u1 u2 hP
              · obtain rfl : k = 21 := by omega
                exact n_v21 dC dI aC q0 q1 u1 u2 hP
            · rcases Nat.lt_or_ge k 23 with g22_25 | g22_25
              · obtain rfl : k = 22 := by omega
                exact n_v22 dC dI aC q0 q1 u1 u2 hP
              · rcases Nat.lt_or_ge k 24 with g23_25 | g23_25
                · obtain rfl : k = 23 := by omega
                  exact n_v23 dC dI aC q0 q1 u1 u2 hP
                · obtain rfl : k = 24 := by omega
                  exact n_v24 dC dI aC q0 q1 u1 u2 hP
          · rcases Nat.lt_or_ge k 27 with g25_30 | g25_30
            · rcases Nat.lt_or_ge k 26 with g25_27 | g25_27
              · obtain rfl : k = 25 := by omega
                exact n_v25 dC dI aC q0 q1 u1 u2 hP
              · obtain rfl : k = 26 := by omega
                exact n_v26 dC dI aC q0 q1 u1 u2 hP
            · rcases Nat.lt_or_ge k 28 with g27_30 | g27_30
              · obtain rfl : k = 27 := by omega
                exact n_v27 dC dI aC q0 q1 u1 u2 hP
              · rcases Nat.lt_or_ge k 29 with g28_30 | g28_30
                · obtain rfl : k = 28 := by omega
                  exact n_v28 dC dI aC q0 q1 u1 u2 hP
                · obtain rfl : k = 29 := by omega
                  exact n_v29 dC dI aC q0 q1 u1 u2 hP
        · rcases Nat.lt_or_ge k 35 with g30_41 | g30_41
          · rcases Nat.lt_or_ge k 32 with g30_35 | g30_35
            · rcases Nat.lt_or_ge k 31 with g30_32 | g30_32
              · obtain rfl : k = 30 := by omega
                exact n_v30 dC dI aC q0 q1 u1 u2 hP
              · obtain rfl : k = 31 := by omega
                exact n_v31 dC dI aC q0 q1 u1 u2 hP
            · rcases Nat.lt_or_ge k 33 with g32_35 | g32_35
              · obtain rfl : k = 32 := by omega
                exact n_v32 dC dI aC q0 q1 u1 u2 hP
              · rcases Nat.lt_or_ge k 34 with g33_35 | g33_35
                · obtain rfl : k = 33 := by omega
                  exact n_v33 dC dI aC q0 q1 u1 u2 hP
                · obtain rfl : k = 34 := by omega
                  exact n_v34 dC dI aC q0 q1 u1 u2 hP
          · rcases Nat.lt_or_ge k 38 with g35_41 | g35_41
            · rcases Nat.lt_or_ge k 36 with g35_38 | g35_38
              · obtain rfl : k = 35 := by omega
                exact n_v35 dC dI aC q0 q1 u1 u2 hP
              · rcases Nat.lt_or_ge k 37 with g36_38 | g36_38
                · obtain rfl : k = 36 := by omega
                  exact n_v36 dC dI aC q0 q1 u1 u2 hP
                · obtain rfl : k = 37 := by omega
                  exact n_v37 dC dI aC q0 q1 u1 u2 hP
            · rcases Nat.lt_or_ge k 39 with g38_41 | g38_41
              · obtain rfl : k = 38 := by omega
                exact n_v38 dC dI aC q0 q1 u1 u2 hP
              · rcases Nat.lt_or_ge k 40 with g39_41 | g39_41
                · obtain rfl : k = 39 := by omega
                  exact n_v39 dC dI aC q0 q1 u1 u2 hP
                · obtain rfl : k = 40 := by omega
                  exact n_v40 dC dI aC q0 q1 u1 u2 hP
    · rcases Nat.lt_or_ge k 61 with g41_82 | g41_82
      · rcases Nat.lt_or_ge k 51 with g41_61 | g41_61
        · rcases Nat.lt_or_ge k 46 with g41_51 | g41_51
          · rcases Nat.lt_or_ge k 43 with g41_46 | g41_46
            · rcases Nat.lt_or_ge k 42 with g41_43 | g41_43
              · obtain rfl : k = 41 := by omega
                exact n_v41 dC dI aC q0 q1 u1 u2 hP
              · obtain rfl : k = 42 := by omega
                exact n_v42 dC dI aC q0 q1 u1 u2 hP
            · rcases Nat.lt_or_ge k 44 with g43_46 | g43_46
              · obtain rfl : k = 43 := by omega
                exact n_v43 dC dI aC q0 q1 u1 u2 hP
              · rcases Nat.lt_or_ge k 45 with g44_46 | g44_46
                · obtain rfl : k = 44 := by omega
                  exact n_v44 dC dI aC q0 q1 u1 u2 hP
                · obtain rfl : k = 45 := by omega
                  exact n_v45 dC dI aC q0 q1 u1 u2 hP
          · rcases Nat.lt_or_ge k 48 with g46_51 | g46_51
            · rcases Nat.lt_or_ge k 47 with g46_48 | g46_48
              · obtain rfl : k = 46 := by omega
                exact n_v46 dC dI aC q0 q1 u1 u2 hP
              · obtain rfl : k = 47 := by omega
                exact n_v47 dC dI aC q0 q1 u1 u2 hP
            · rcases Nat.lt_or_ge k 49 with g48_51 | g48_51
              · obtain rfl : k = 48 := by omega
                exact n_v48 dC dI aC q0 q1 u1 u2 hP
              · rcases Nat.lt_or_ge k 50 with g49_51 | g49_51
                · obtain rfl : k = 49 := by omega
                  exact n_v49 dC dI aC q0 q1 u1 u2 hP
                · obtain rfl : k = 50 := by omega
                  exact n_v50 dC dI aC q0 q1 u1 u2 hP
        · rcases Nat.lt_or_ge k 56 with g51_61 | g51_61
          · rcases Nat.lt_or_ge k 53 with g51_56 | g51_56
            · rcases Nat.lt_or_ge k 52 with g51_53 | g51_53
              · obtain rfl : k = 51 := by omega
                exact n_v51 dC dI aC q0 q1 u1 u2 hP
              · obtain rfl : k = 52 := by omega
                exact n_v52 dC dI aC q0 q1 u1 u2 hP
            · rcases Nat.lt_or_ge k 54 with g53_56 | g53_56
              · obtain rfl : k = 53 := by omega
                exact n_v53 dC dI aC q0 q1 u1 u2 hP
              · rcases Nat.lt_or_ge k 55 with g54_56 | g54_56
                · obtain rfl : k = 54 := by omega
                  exact n_v54 dC dI aC q0 q1 u1 u2 hP
                · obtain rfl : k = 55 := by omega
                  exact n_v55 dC dI aC q0 q1 u1 u2 hP
          · rcases Nat.lt_or_ge k 58 with g56_61 | g56_61
            · rcases Nat.lt_or_ge k 57 with g56_58 | g56_58
              · obtain rfl : k = 56 := by omega
                exact n_v56 dC dI aC q0 q1 u1 u2 hP
              · obtain rfl : k = 57 := by omega
                exact n_v57 dC dI aC q0 q1 u1 u2 hP
            · rcases Nat.lt_or_ge k 59 with g58_61 | g58_61
              · obtain rfl : k = 58 := by omega
                exact n_v58 dC dI aC q0 q1 u1 u2 hP
              · rcases Nat.lt_or_ge k 60 with g59_61 | g59_61
                · obtain rfl : k = 59 := by omega
                  exact n_v59 dC dI aC q0 q1 u1 u2 hP
                · obtain rfl : k = 60 := by omega
                  exact n_v60 dC dI aC q0 q1 u1 u2 hP
      · rcases Nat.lt_or_ge k 71 with g61_82 | g61_82
        · rcases Nat.lt_or_ge k 66 with g61_71 | g61_71
          · rcases Nat.lt_or_ge k 63 with g61_66 | g61_66
            · rcases Nat.lt_or_ge k 62 with g61_63 | g61_63
              · obtain rfl : k = 61 := by omega
                exact n_v61 dC dI aC q0 q1 u1 u2 hP
              · obtain rfl : k = 62 := by omega
                exact n_v62 dC dI aC q0 q1 u1 u2 hP
            · rcases Nat.lt_or_ge k 64 with g63_66 | g63_66
              · obtain rfl : k = 63 := by omega
                exact n_v63 dC dI aC q0 q1 u1 u2 hP
              · rcases Nat.lt_or_ge k 65 with g64_66 | g64_66
                · obtain rfl : k = 64 := by omega
                  exact n_v64 dC dI aC q0 q1 u1 u2 hP
                · obtain rfl : k = 65 := by omega
                  exact n_v65 dC dI aC q0 q1 u1 u2 hP
          · rcases Nat.lt_or_ge k 68 with g66_71 | g66_71
            · rcases Nat.lt_or_ge k 67 with g66_68 | g66_68
              · obtain rfl : k = 66 := by omega
                exact n_v66 dC dI aC q0 q1 u1 u2 hP
              · obtain rfl : k = 67 := by omega
                exact n_v67 dC dI aC q0 q1 u1 u2 hP
            · rcases Nat.lt_or_ge k 69 with g68_71 | g68_71
              · obtain rfl : k = 68 := by omega
                exact n_v68 dC dI aC q0 q1 u1 u2 hP
              · rcases Nat.lt_or_ge k 70 with g69_71 | g69_71
                · obtain rfl : k = 69 := by omega
                  exact n_v69 dC dI aC q0 q1 u1 u2 hP
                · obtain rfl : k = 70 := by omega
                  exact n_v70 dC dI aC q0 q1 u1 u2 hP
        · rcases Nat.lt_or_ge k 76 with g71_82 | g71_82
          · rcases Nat.lt_or_ge k 73 with g71_76 | g71_76
            · rcases Nat.lt_or_ge k 72 with g71_73 | g71_73
              · obtain rfl : k = 71 := by omega
                exact n_v71 dC dI aC q0 q1 u1 u2 hP
              · obtain rfl : k = 72 := by omega
                exact n_v72 dC dI aC q0 q1 u1 u2 hP
            · rcases Nat.lt_or_ge k 74 with g73_76 | g73_76
              · obtain rfl : k = 73 := by omega
                exact n_v73 dC dI aC q0 q1 u1 u2 hP
              · rcases Nat.lt_or_ge k 75 with g74_76 | g74_76
                · obtain rfl : k = 74 := by omega
                  exact n_v74 dC dI aC q0 q1 u1 u2 hP
                · obtain rfl : k = 75 := by omega
                  exact n_v75 dC dI aC q0 q1 u1 u2 hP
          · rcases Nat.lt_or_ge k 79 with g76_82 | g76_82
            · rcases Nat.lt_or_ge k 77 with g76_79 | g76_79
              · obtain rfl : k = 76 := by omega
                exact n_v76 dC dI aC q0 q1 u1 u2 hP
              · rcases Nat.lt_or_ge k 78 with g77_79 | g77_79
                · obtain rfl : k = 77 := by omega
                  exact n_v77 dC dI aC q0 q1 u1 u2 hP
                · obtain rfl : k = 78 := by omega
                  exact n_v78 dC dI aC q0 q1 u1 u2 hP
            · rcases Nat.lt_or_ge k 80 with g79_82 | g79_82
              · obtain rfl : k = 79 := by omega
                exact n_v79 dC dI aC q0 q1 u1 u2 hP
              · rcases Nat.lt_or_ge k 81 with g80_82 | g80_82
                · obtain rfl : k = 80 := by omega
                  exact n_v80 dC dI aC q0 q1 u1 u2 hP
                · obtain rfl : k = 81 := by omega
                  exact n_v81 dC dI aC q0 q1 u1 u2 hP
  · rcases Nat.lt_or_ge k 123 with g82_165 | g82_165
    · rcases Nat.lt_or_ge k 102 with g82_123 | g82_123
      · rcases Nat.lt_or_ge k 92 with g82_102 | g82_102
        · rcases Nat.lt_or_ge k 87 with g82_92 | g82_92
          · rcases Nat.lt_or_ge k 84 with g82_87 | g82_87
            · rcases Nat.lt_or_ge k 83 with g82_84 | g82_84
              · obtain rfl : k = 82 := by omega
                exact n_v82 dC dI aC q0 q1 u1 u2 hP
              · obtain rfl : k = 83 := by omega
                exact n_v83 dC dI aC q0 q1 u1 u2 hP
            · rcases Nat.lt_or_ge k 85 with g84_87 | g84_87
              · obtain rfl : k = 84 := by omega
                exact n_v84 dC dI aC q0 q1 u1 u2 hP
              · rcases Nat.lt_or_ge k 86 with g85_87 | g85_87
                · obtain rfl : k = 85 := by omega
                  exact n_v85 dC dI aC q0 q1 u1 u2 hP
                · obtain rfl : k = 86 := by omega
                  exact n_v86 dC dI aC q0 q1 u1 u2 hP
          · rcases Nat.lt_or_ge k 89 with g87_92 | g87_92
            · rcases Nat.lt_or_ge k 88 with g87_89 | g87_89
              · obtain rfl : k = 87 := by omega
                exact n_v87 dC dI aC q0 q1 u1 u2 hP
              · obtain rfl : k = 88 := by omega
                exact n_v88 dC dI aC q0 q1 u1 u2 hP
            · rcases Nat.lt_or_ge k 90 with g89_92 | g89_92
              · obtain rfl : k = 89 := by omega
                exact n_v89 dC dI aC q0 q1 u1 u2 hP
              · rcases Nat.lt_or_ge k 91 with g90_92 | g90_92
                · obtain rfl : k = 90 := by omega
                  exact n_v90 dC dI aC q0 q1 u1 u2 hP
                · obtain rfl : k = 91 := by omega
                  exact n_v91 dC dI aC q0 q1 u1 u2 hP
        · rcases Nat.lt_or_ge k 97 with g92_102 | g92_102
          · rcases Nat.lt_or_ge k 94 with g92_97 | g92_97
            · rcases Nat.lt_or_ge k 93 with g92_94 | g92_94
              · obtain rfl : k = 92 := by omega
                exact n_v92 dC dI aC q0 q1 u1 u2 hP
              · obtain rfl : k = 93 := by omega
                exact n_v93 dC dI aC q0 q1 u1 u2 hP
            · rcases Nat.lt_or_ge k 95 with g94_97 | g94_97
              · obtain rfl : k = 94 := by omega
                exact n_v94 dC dI aC q0 q1 u1 u2 hP
              · rcases Nat.lt_or_ge k 96 with g95_97 | g95_97
                · obtain rfl : k = 95 := by omega
                  exact n_v95 dC dI aC q0 q1 u1 u2 hP
                · obtain rfl : k = 96 := by omega
                  exact n_v96 dC dI aC q0 q1 u1 u2 hP
          · rcases Nat.lt_or_ge k 99 with g97_102 | g97_102
            · rcases Nat.lt_or_ge k 98 with g97_99 | g97_99
              · obtain rfl : k = 97 := by omega
                exact n_v97 dC dI aC q0 q1 u1 u2 hP
              · obtain rfl : k = 98 := by omega
                exact n_v98 dC dI aC q0 q1 u1 u2 hP
            · rcases Nat.lt_or_ge k 100 with g99_102 | g99_102
              · obtain rfl : k = 99 := by omega
                exact n_v99 dC dI aC q0 q1 u1 u2 hP
              · rcases Nat.lt_or_ge k 101 with g100_102 | g100_102
                · obtain rfl : k = 100 := by omega
                  exact n_v100 dC dI aC q0 q1 u1 u2 hP
                · obtain rfl : k = 101 := by omega
                  exact n_v101 dC dI aC q0 q1 u1 u2 hP
      · rcases Nat.lt_or_ge k 112 with g102_123 | g102_123
        · rcases Nat.lt_or_ge k 107 with g102_112 | g102_112
          · rcases Nat.lt_or_ge k 104 with g102_107 | g102_107
            · rcases Nat.lt_or_ge k 103 with g102_104 | g102_104
              · obtain rfl : k = 102 := by omega
                exact n_v102 dC dI aC q0 q1 u1 u2 hP
              · obtain rfl : k = 103 := by omega
                exact n_v103 dC dI aC q0 q1 u1 u2 hP
            · rcases Nat.lt_or_ge k 105 with g104_107 | g104_107
              · obtain rfl : k = 104 := by omega
                exact n_v104 dC dI aC q0 q1 u1 u2 hP
              · rcases Nat.lt_or_ge k 106 with g105_107 | g105_107
                · obtain rfl : k = 105 := by omega
                  exact n_v105 dC dI aC q0 q1 u1 u2 hP
                · obtain rfl : k = 106 := by omega
                  exact n_v106 dC dI aC q0 q1 u1 u2 hP
          · rcases Nat.lt_or_ge k 109 with g107_112 | g107_112
            · rcases Nat.lt_or_ge k 108 with g107_109 | g107_109
              · obtain rfl : k = 107 := by omega
                exact n_v107 dC dI aC q0 q1 u1 u2 hP
              · obtain rfl : k = 108 := by omega
                exact n_v108 dC dI aC q0 q1 u1 u2 hP
            · rcases Nat.lt_or_ge k 110 with g109_112 | g109_112
              · obtain rfl : k = 109 := by omega
                exact n_v109 dC dI aC q0 q1 u1 u2 hP
              · rcases Nat.lt_or_ge k 111 with g110_112 | g110_112
                · obtain rfl : k = 110 := by omega
                  exact n_v110 dC dI aC q0 q1 u1 u2 hP
                · obtain rfl : k = 111 := by omega
                  exact n_v111 dC dI aC q0 q1 u1 u2 hP
        · rcases Nat.lt_or_ge k 117 with g112_123 | g112_123
          · rcases Nat.lt_or_ge k 114 with g112_117 | g112_117
            · rcases Nat.lt_or_ge k 113 with g112_114 | g112_114
              · obtain rfl : k = 112 := by omega
                exact n_v112 dC dI aC q0 q1 u1 u2 hP
              · obtain rfl : k = 113 := by omega
                exact n_v113 dC dI aC q0 q1 u1 u2 hP
            · rcases Nat.lt_or_ge k 115 with g114_117 | g114_117
              · obtain rfl : k = 114 := by omega
                exact n_v114 dC dI aC q0 q1 u1 u2 hP
              · rcases Nat.lt_or_ge k 116 with g115_117 | g115_117
                · obtain rfl : k = 115 := by omega
                  exact n_v115 dC dI aC q0 q1 u1 u2 hP
                · obtain rfl : k = 116 := by omega
                  exact n_v116 dC dI aC q0 q1 u1 u2 hP
          · rcases Nat.lt_or_ge k 120 with g117_123 | g117_123
            · rcases Nat.lt_or_ge k 118 with g117_120 | g117_120
              · obtain rfl : k = 117 := by omega
                exact n_v117 dC dI aC q0 q1 u1 u2 hP
              · rcases Nat.lt_or_ge k 119 with g118_120 | g118_120
                · obtain rfl : k = 118 := by omega
                  exact n_v118 dC dI aC q0 q1 u1 u2 hP
                · obtain rfl : k = 119 := by omega
                  exact n_v119 dC dI aC q0 q1 u1 u2 hP
            · rcases Nat.lt_or_ge k 121 with g120_123 | g120_123
              · obtain rfl : k = 120 := by omega
                exact n_v120 dC dI aC q0 q1 u1 u2 hP
              · rcases Nat.lt_or_ge k 122 with g121_123 | g121_123
                · obtain rfl : k = 121 := by omega
                  exact n_v121 dC dI aC q0 q1 u1 u2 hP
                · obtain rfl : k = 122 := by omega
                  exact n_v122 dC dI aC q0 q1 u1 u2 hP
    · rcases Nat.lt_or_ge k 144 with g123_165 | g123_165
      · rcases Nat.lt_or_ge k 133 with g123_144 | g123_144
        · rcases Nat.lt_or_ge k 128 with g123_133 | g123_133
          · rcases Nat.lt_or_ge k 125 with g123_128 | g123_128
            · rcases Nat.lt_or_ge k 124 with g123_125 | g123_125
              · obtain rfl : k = 123 := by omega
                exact n_v123 dC dI aC q0 q1 u1 u2 hP
              · obtain rfl : k = 124 := by omega
                exact n_v124 dC dI aC q0 q1 u1 u2 hP
            · rcases Nat.lt_or_ge k 126 with g125_128 | g125_128
              · obtain rfl : k = 125 := by omega
                exact n_v125 dC dI aC q0 q1 u1 u2 hP
              · rcases Nat.lt_or_ge k 127 with g126_128 | g126_128
                · obtain rfl : k = 126 := by omega
                  exact n_v126 dC dI aC q0 q1 u1 u2 hP
                · obtain rfl : k = 127 := by omega
                  exact n_v127 dC dI aC q0 q1 u1 u2 hP
          · rcases Nat.lt_or_ge k 130 with g128_133 | g128_133
            · rcases Nat.lt_or_ge k 129 with g128_130 | g128_130
              · obtain rfl : k = 128 := by omega
                exact n_v128 dC dI aC q0 q1 u1 u2 hP
              · obtain rfl : k = 129 := by omega
                exact n_v129 dC dI aC q0 q1 u1 u2 hP
            · rcases Nat.lt_or_ge k 131 with g130_133 | g130_133
              · obtain rfl : k = 130 := by omega
                exact n_v130 dC dI aC q0 q1 u1 u2 hP
              · rcases Nat.lt_or_ge k 132 with g131_133 | g131_133
                · obtain rfl : k = 131 := by omega
                  exact n_v131 dC dI aC q0 q1 u1 u2 hP
                · obtain rfl : k = 132 := by omega
                  exact n_v132 dC dI aC q0 q1 u1 u2 hP
        · rcases Nat.lt_or_ge k 138 with g133_144 | g133_144
          · rcases Nat.lt_or_ge k 135 with g133_138 | g133_138
            · rcases Nat.lt_or_ge k 134 with g133_135 | g133_135
              · obtain rfl : k = 133 := by omega
                exact n_v133 dC dI aC q0 q1 u1 u2 hP
              · obtain rfl : k = 134 := by omega
                exact n_v134 dC dI aC q0 q1 u1 u2 hP
            · rcases Nat.lt_or_ge k 136 with g135_138 | g135_138
              · obtain rfl : k = 135 := by omega
                exact n_v135 dC dI aC q0 q1 u1 u2 hP
              · rcases Nat.lt_or_ge k 137 with g136_138 | g136_138
                · obtain rfl : k = 136 := by omega
                  exact n_v136 dC dI aC q0 q1 u1 u2 hP
                · obtain rfl : k = 137 := by omega
                  exact n_v137 dC dI aC q0 q1 u1 u2 hP
          · rcases Nat.lt_or_ge k 141 with g138_144 | g138_144
            · rcases Nat.lt_or_ge k 139 with g138_141 | g138_141
              · obtain rfl : k = 138 := by omega
                exact n_v138 dC dI aC q0 q1 u1 u2 hP
              · rcases Nat.lt_or_ge k 140 with g139_141 | g139_141
                · obtain rfl : k = 139 := by omega
                  exact n_v139 dC dI aC q0 q1 u1 u2 hP
                · obtain rfl : k = 140 := by omega
                  exact n_v140 dC dI aC q0 q1 u1 u2 hP
            · rcases Nat.lt_or_ge k 142 with g141_144 | g141_144
              · obtain rfl : k = 141 := by omega
                exact n_v141 dC dI aC q0 q1 u1 u2 hP
              · rcases Nat.lt_or_ge k 143 with g142_144 | g142_144
                · obtain rfl : k = 142 := by omega
                  exact n_v142 dC dI aC q0 q1 u1 u2 hP
                · obtain rfl : k = 143 := by omega
                  exact n_v143 dC dI aC q0 q1 u1 u2 hP
      · rcases Nat.lt_or_ge k 154 with g144_165 | g144_165
        · rcases Nat.lt_or_ge k 149 with g144_154 | g144_154
          · rcases Nat.lt_or_ge k 146 with g144_149 | g144_149
            · rcases Nat.lt_or_ge k 145 with g144_146 | g144_146
              · obtain rfl : k = 144 := by omega
                exact n_v144 dC dI aC q0 q1 u1 u2 hP
              · obtain rfl : k = 145 := by omega
                exact n_v145 dC dI aC q0 q1 u1 u2 hP
            · rcases Nat.lt_or_ge k 147 with g146_149 | g146_149
              · obtain rfl : k = 146 := by omega
                exact n_v146 dC dI aC q0 q1 u1 u2 hP
              · rcases Nat.lt_or_ge k 148 with g147_149 | g147_149
                · obtain rfl : k = 147 := by omega
                  exact n_v147 dC dI aC q0 q1 u1 u2 hP
                · obtain rfl : k = 148 := by omega
                  exact n_v148 dC dI aC q0 q1 u1 u2 hP
          · rcases Nat.lt_or_ge k 151 with g149_154 | g149_154
            · rcases Nat.lt_or_ge k 150 with g149_151 | g149_151
              · obtain rfl : k = 149 := by omega
                exact n_v149 dC dI aC q0 q1 u1 u2 hP
              · obtain rfl : k = 150 := by omega
                exact n_v150 dC dI aC q0 q1 u1 u2 hP
            · rcases Nat.lt_or_ge k 152 with g151_154 | g151_154
              · obtain rfl : k = 151 := by omega
                exact n_v151 dC dI aC q0 q1 u1 u2 hP
              · rcases Nat.lt_or_ge k 153 with g152_154 | g152_154
                · obtain rfl : k = 152 := by omega
                  exact n_v152 dC dI aC q0 q1 u1 u2 hP
                · obtain rfl : k = 153 := by omega
                  exact n_v153 dC dI aC q0 q1 u1 u2 hP
        · rcases Nat.lt_or_ge k 159 with g154_165 | g154_165
          · rcases Nat.lt_or_ge k 156 with g154_159 | g154_159
            · rcases Nat.lt_or_ge k 155 with g154_156 | g154_156
              · obtain rfl : k = 154 := by omega
                exact n_v154 dC dI aC q0 q1 u1 u2 hP
              · obtain rfl : k = 155 := by omega
                exact n_v155 dC dI aC q0 q1 u1 u2 hP
            · rcases Nat.lt_or_ge k 157 with g156_159 | g156_159
              · obtain rfl : k = 156 := by omega
                exact n_v156 dC dI aC q0 q1 u1 u2 hP
              · rcases Nat.lt_or_ge k 158 with g157_159 | g157_159
                · obtain rfl : k = 157 := by omega
                  exact n_v157 dC dI aC q0 q1 u1 u2 hP
                · obtain rfl : k = 158 := by omega
                  exact n_v158 dC dI aC q0 q1 u1 u2 hP
          · rcases Nat.lt_or_ge k 162 with g159_165 | g159_165
            · rcases Nat.lt_or_ge k 160 with g159_162 | g159_162
              · obtain rfl : k = 159 := by omega
                exact n_v159 dC dI aC q0 q1 u1 u2 hP
              · rcases Nat.lt_or_ge k 161 with g160_162 | g160_162
                · obtain rfl : k = 160 := by omega
                  exact n_v160 dC dI aC q0 q1 u1 u2 hP
                · obtain rfl : k = 161 := by omega
                  exact n_v161 dC dI aC q0 q1 u1 u2 hP
            · rcases Nat.lt_or_ge k 163 with g162_165 | g162_165
              · obtain rfl : k = 162 := by omega
                exact n_v162 dC dI aC q0 q1 u1 u2 hP
              · rcases Nat.lt_or_ge k 164 with g163_165 | g163_165
                · obtain rfl : k = 163 := by omega
                  exact n_v163 dC dI aC q0 q1 u1 u2 hP
                · obtain rfl : k = 164 := by omega
                  exact n_v164 dC dI aC q0 q1 u1 u2 hP
theorem n_eall (aC : Nat → ClassId) (q0 q1 : Nat) (u1 u2 : Nat → Nat) : ∀ k, k < 165 → ∃ e, (n_W aC q0 q1 u1 u2)[n_pos k]? = some (n_ad q0 q1 u1 u2 k, e) := by
  intro k hk
  rcases Nat.lt_or_ge k 82 with g0_165 | g0_165
  · rcases Nat.lt_or_ge k 41 with g0_82 | g0_82
    · rcases Nat.lt_or_ge k 20 with g0_41 | g0_41
      · rcases Nat.lt_or_ge k 10 with g0_20 | g0_20
        · rcases Nat.lt_or_ge k 5 with g0_10 | g0_10
          · rcases Nat.lt_or_ge k 2 with g0_5 | g0_5
            · rcases Nat.lt_or_ge k 1 with g0_2 | g0_2
              · obtain rfl : k = 0 := by omega
                exact ⟨_, n_e0 aC q0 q1 u1 u2⟩
              · obtain rfl : k = 1 := by omega
                exact ⟨_, n_e1 aC q0 q1 u1 u2⟩
            · rcases Nat.lt_or_ge k 3 with g2_5 | g2_5
              · obtain rfl : k = 2 := by omega
                exact ⟨_, n_e2 aC q0 q1 u1 u2⟩
              · rcases Nat.lt_or_ge k 4 with g3_5 | g3_5
                · obtain rfl : k = 3 := by omega
                  exact ⟨_, n_e3 aC q0 q1 u1 u2⟩
                · obtain rfl : k = 4 := by omega
                  exact ⟨_, n_e4 aC q0 q1 u1 u2⟩
          · rcases Nat.lt_or_ge k 7 with g5_10 | g5_10
            · rcases Nat.lt_or_ge k 6 with g5_7 | g5_7
              · obtain rfl : k = 5 := by omega
                exact ⟨_, n_e5 aC q0 q1 u1 u2⟩
              · obtain rfl : k = 6 := by omega
                exact ⟨_, n_e6 aC q0 q1 u1 u2⟩
            · rcases Nat.lt_or_ge k 8 with g7_10 | g7_10
              · obtain rfl : k = 7 := by omega
                exact ⟨_, n_e7 aC q0 q1 u1 u2⟩
              · rcases Nat.lt_or_ge k 9 with g8_10 | g8_10
                · obtain rfl : k = 8 := by omega
                  exact ⟨_, n_e8 aC q0 q1 u1 u2⟩
                · obtain rfl : k = 9 := by omega
                  exact ⟨_, n_e9 aC q0 q1 u1 u2⟩
        · rcases Nat.lt_or_ge k 15 with g10_20 | g10_20
          · rcases Nat.lt_or_ge k 12 with g10_15 | g10_15
            · rcases Nat.lt_or_ge k 11 with g10_12 | g10_12
              · obtain rfl : k = 10 := by omega
                exact ⟨_, n_e10 aC q0 q1 u1 u2⟩
              · obtain rfl : k = 11 := by omega
                exact ⟨_, n_e11 aC q0 q1 u1 u2⟩
            · rcases Nat.lt_or_ge k 13 with g12_15 | g12_15
              · obtain rfl : k = 12 := by omega
                exact ⟨_, n_e12 aC q0 q1 u1 u2⟩
              · rcases Nat.lt_or_ge k 14 with g13_15 | g13_15
                · obtain rfl : k = 13 := by omega
                  exact ⟨_, n_e13 aC q0 q1 u1 u2⟩
                · obtain rfl : k = 14 := by omega
                  exact ⟨_, n_e14 aC q0 q1 u1 u2⟩
          · rcases Nat.lt_or_ge k 17 with g15_20 | g15_20
            · rcases Nat.lt_or_ge k 16 with g15_17 | g15_17
              · obtain rfl : k = 15 := by omega
                exact ⟨_, n_e15 aC q0 q1 u1 u2⟩
              · obtain rfl : k = 16 := by omega
                exact ⟨_, n_e16 aC q0 q1 u1 u2⟩
            · rcases Nat.lt_or_ge k 18 with g17_20 | g17_20
              · obtain rfl : k = 17 := by omega
                exact ⟨_, n_e17 aC q0 q1 u1 u2⟩
              · rcases Nat.lt_or_ge k 19 with g18_20 | g18_20
                · obtain rfl : k = 18 := by omega
                  exact ⟨_, n_e18 aC q0 q1 u1 u2⟩
                · obtain rfl : k = 19 := by omega
                  exact ⟨_, n_e19 aC q0 q1 u1 u2⟩
      · rcases Nat.lt_or_ge k 30 with g20_41 | g20_41
        · rcases Nat.lt_or_ge k 25 with g20_30 | g20_30
          · rcases Nat.lt_or_ge k 22 with g20_25 | g20_25
            · rcases Nat.lt_or_ge k 21 with g20_22 | g20_22
              · obtain rfl : k = 20 := by omega
                exact ⟨_, n_e20 aC q0 q1 u1 u2⟩
              · obtain rfl : k = 21 := by omega
                exact ⟨_, n_e21 aC q0 q1 u1 u2⟩
            · rcases Nat.lt_or_ge k 23 with g22_25 | g22_25
              · obtain rfl : k = 22 := by omega
                exact ⟨_, n_e22 aC q0 q1 u1 u2⟩
              · rcases Nat.lt_or_ge k 24 with g23_25 | g23_25
                · obtain rfl : k = 23 := by omega
                  exact ⟨_, n_e23 aC q0 q1 u1 u2⟩
                · obtain rfl : k = 24 := by omega
                  exact ⟨_, n_e24 aC q0 q1 u1 u2⟩
          · rcases Nat.lt_or_ge k 27 with g25_30 | g25_30
            · rcases Nat.lt_or_ge k 26 with g25_27 | g25_27
              · obtain rfl : k = 25 := by omega
                exact ⟨_, n_e25 aC q0 q1 u1 u2⟩
              · obtain rfl : k = 26 := by omega
                exact ⟨_, n_e26 aC q0 q1 u1 u2⟩
            · rcases Nat.lt_or_ge k 28 with g27_30 | g27_30
              · obtain rfl : k = 27 := by omega
                exact ⟨_, n_e27 aC q0 q1 u1 u2⟩
              · rcases Nat.lt_or_ge k 29 with g28_30 | g28_30
                · obtain rfl : k = 28 := by omega
                  exact ⟨_, n_e28 aC q0 q1 u1 u2⟩
                · obtain rfl : k = 29 := by omega
                  exact ⟨_, n_e29 aC q0 q1 u1 u2⟩
        · rcases Nat.lt_or_ge k 35 with g30_41 | g30_41
          · rcases Nat.lt_or_ge k 32 with g30_35 | g30_35
            · rcases Nat.lt_or_ge k 31 with g30_32 | g30_32
              · obtain rfl : k = 30 := by omega
                exact ⟨_, n_e30 aC q0 q1 u1 u2⟩
              · obtain rfl : k = 31 := by omega
                exact ⟨_, n_e31 aC q0 q1 u1 u2⟩
            · rcases Nat.lt_or_ge k 33 with g32_35 | g32_35
              · obtain rfl : k = 32 := by omega
                exact ⟨_, n_e32 aC q0 q1 u1 u2⟩
              · rcases Nat.lt_or_ge k 34 with g33_35 | g33_35
                · obtain rfl : k = 33 := by omega
                  exact ⟨_, n_e33 aC q0 q1 u1 u2⟩
                · obtain rfl : k = 34 := by omega
                  exact ⟨_, n_e34 aC q0 q1 u1 u2⟩
          · rcases Nat.lt_or_ge k 38 with g35_41 | g35_41
            · rcases Nat.lt_or_ge k 36 with g35_38 | g35_38
              · obtain rfl : k = 35 := by omega
                exact ⟨_, n_e35 aC q0 q1 u1 u2⟩
              · rcases Nat.lt_or_ge k 37 with g36_38 | g36_38
                · obtain rfl : k = 36 := by omega
                  exact ⟨_, n_e36 aC q0 q1 u1 u2⟩
                · obtain rfl : k = 37 := by omega
                  exact ⟨_, n_e37 aC q0 q1 u1 u2⟩
            · rcases Nat.lt_or_ge k 39 with g38_41 | g38_41
              · obtain rfl : k = 38 := by omega
                exact ⟨_, n_e38 aC q0 q1 u1 u2⟩
              · rcases Nat.lt_or_ge k 40 with g39_41 | g39_41
                · obtain rfl : k = 39 := by omega
                  exact ⟨_, n_e39 aC q0 q1 u1 u2⟩
                · obtain rfl : k = 40 := by omega
                  exact ⟨_, n_e40 aC q0 q1 u1 u2⟩
    · rcases Nat.lt_or_ge k 61 with g41_82 | g41_82
      · rcases Nat.lt_or_ge k 51 with g41_61 | g41_61
        · rcases Nat.lt_or_ge k 46 with g41_51 | g41_51
          · rcases Nat.lt_or_ge k 43 with g41_46 | g41_46
            · rcases Nat.lt_or_ge k 42 with g41_43 | g41_43
              · obtain rfl : k = 41 := by omega
                exact ⟨_, n_e41 aC q0 q1 u1 u2⟩
              · obtain rfl : k = 42 := by omega
                exact ⟨_, n_e42 aC q0 q1 u1 u2⟩
            · rcases Nat.lt_or_ge k 44 with g43_46 | g43_46
              · obtain rfl : k = 43 := by omega
                exact ⟨_, n_e43 aC q0 q1 u1 u2⟩
              · rcases Nat.lt_or_ge k 45 with g44_46 | g44_46
                · obtain rfl : k = 44 := by omega
                  exact ⟨_, n_e44 aC q0 q1 u1 u2⟩
                · obtain rfl : k = 45 := by omega
                  exact ⟨_, n_e45 aC q0 q1 u1 u2⟩
          · rcases Nat.lt_or_ge k 48 with g46_51 | g46_51
            · rcases Nat.lt_or_ge k 47 with g46_48 | g46_48
              · obtain rfl : k = 46 := by omega
                exact ⟨_, n_e46 aC q0 q1 u1 u2⟩
              · obtain rfl : k = 47 := by omega
                exact ⟨_, n_e47 aC q0 q1 u1 u2⟩
            · rcases Nat.lt_or_ge k 49 with g48_51 | g48_51
              · obtain rfl : k = 48 := by omega
                exact ⟨_, n_e48 aC q0 q1 u1 u2⟩
              · rcases Nat.lt_or_ge k 50 with g49_51 | g49_51
                · obtain rfl : k = 49 := by omega
                  exact ⟨_, n_e49 aC q0 q1 u1 u2⟩
                · obtain rfl : k = 50 := by omega
                  exact ⟨_, n_e50 aC q0 q1 u1 u2⟩
        · rcases Nat.lt_or_ge k 56 with g51_61 | g51_61
          · rcases Nat.lt_or_ge k 53 with g51_56 | g51_56
            · rcases Nat.lt_or_ge k 52 with g51_53 | g51_53
              · obtain rfl : k = 51 := by omega
                exact ⟨_, n_e51 aC q0 q1 u1 u2⟩
              · obtain rfl : k = 52 := by omega
                exact ⟨_, n_e52 aC q0 q1 u1 u2⟩
            · rcases Nat.lt_or_ge k 54 with g53_56 | g53_56
              · obtain rfl : k = 53 := by omega
                exact ⟨_, n_e53 aC q0 q1 u1 u2⟩
              · rcases Nat.lt_or_ge k 55 with g54_56 | g54_56
                · obtain rfl : k = 54 := by omega
                  exact ⟨_, n_e54 aC q0 q1 u1 u2⟩
                · obtain rfl : k = 55 := by omega
                  exact ⟨_, n_e55 aC q0 q1 u1 u2⟩
          · rcases Nat.lt_or_ge k 58 with g56_61 | g56_61
            · rcases Nat.lt_or_ge k 57 with g56_58 | g56_58
              · obtain rfl : k = 56 := by omega
                exact ⟨_, n_e56 aC q0 q1 u1 u2⟩
              · obtain rfl : k = 57 := by omega
                exact ⟨_, n_e57 aC q0 q1 u1 u2⟩
            · rcases Nat.lt_or_ge k 59 with g58_61 | g58_61
              · obtain rfl : k = 58 := by omega
                exact ⟨_, n_e58 aC q0 q1 u1 u2⟩
              · rcases Nat.lt_or_ge k 60 with g59_61 | g59_61
                · obtain rfl : k = 59 := by omega
                  exact ⟨_, n_e59 aC q0 q1 u1 u2⟩
                · obtain rfl : k = 60 := by omega
                  exact ⟨_, n_e60 aC q0 q1 u1 u2⟩
      · rcases Nat.lt_or_ge k 71 with g61_82 | g61_82
        · rcases Nat.lt_or_ge k 66 with g61_71 | g61_71
          · rcases Nat.lt_or_ge k 63 with g61_66 | g61_66
            · rcases Nat.lt_or_ge k 62 with g61_63 | g61_63
              · obtain rfl : k = 61 := by omega
                exact ⟨_, n_e61 aC q0 q1 u1 u2⟩
              · obtain rfl : k = 62 := by omega
                exact ⟨_, n_e62 aC q0 q1 u1 u2⟩
            · rcases Nat.lt_or_ge k 64 with g63_66 | g63_66
              · obtain rfl : k = 63 := by omega
                exact ⟨_, n_e63 aC q0 q1 u1 u2⟩
              · rcases Nat.lt_or_ge k 65 with g64_66 | g64_66
                · obtain rfl : k = 64 := by omega
                  exact ⟨_, n_e64 aC q0 q1 u1 u2⟩
                · obtain rfl : k = 65 := by omega
                  exact ⟨_, n_e65 aC q0 q1 u1 u2⟩
          · rcases Nat.lt_or_ge k 68 with g66_71 | g66_71
            · rcases Nat.lt_or_ge k 67 with g66_68 | g66_68
              · obtain rfl : k = 66 := by omega
                exact ⟨_, n_e66 aC q0 q1 u1 u2⟩
              · obtain rfl : k = 67 := by omega
                exact ⟨_, n_e67 aC q0 q1 u1 u2⟩
            · rcases Nat.lt_or_ge k 69 with g68_71 | g68_71
              · obtain rfl : k = 68 := by omega
                exact ⟨_, n_e68 aC q0 q1 u1 u2⟩
              · rcases Nat.lt_or_ge k 70 with g69_71 | g69_71
                · obtain rfl : k = 69 := by omega
                  exact ⟨_, n_e69 aC q0 q1 u1 u2⟩
                · obtain rfl : k = 70 := by omega
                  exact ⟨_, n_e70 aC q0 q1 u1 u2⟩
        · rcases Nat.lt_or_ge k 76 with g71_82 | g71_82
          · rcases Nat.lt_or_ge k 73 with g71_76 | g71_76
            · rcases Nat.lt_or_ge k 72 with g71_73 | g71_73
              · obtain rfl : k = 71 := by omega
                exact ⟨_, n_e71 aC q0 q1 u1 u2⟩
              · obtain rfl : k = 72 := by omega
                exact ⟨_, n_e72 aC q0 q1 u1 u2⟩
            · rcases Nat.lt_or_ge k 74 with g73_76 | g73_76
              · obtain rfl : k = 73 := by omega
                exact ⟨_, n_e73 aC q0 q1 u1 u2⟩
              · rcases Nat.lt_or_ge k 75 with g74_76 | g74_76
                · obtain rfl : k = 74 := by omega
                  exact ⟨_, n_e74 aC q0 q1 u1 u2⟩
                · obtain rfl : k = 75 := by omega
                  exact ⟨_, n_e75 aC q0 q1 u1 u2⟩
          · rcases Nat.lt_or_ge k 79 with g76_82 | g76_82
            · rcases Nat.lt_or_ge k 77 with g76_79 | g76_79
              · obtain rfl : k = 76 := by omega
                exact ⟨_, n_e76 aC q0 q1 u1 u2⟩
              · rcases Nat.lt_or_ge k 78 with g77_79 | g77_79
                · obtain rfl : k = 77 := by omega
                  exact ⟨_, n_e77 aC q0 q1 u1 u2⟩
                · obtain rfl : k = 78 := by omega
                  exact ⟨_, n_e78 aC q0 q1 u1 u2⟩
            · rcases Nat.lt_or_ge k 80 with g79_82 | g79_82
              · obtain rfl : k = 79 := by omega
                exact ⟨_, n_e79 aC q0 q1 u1 u2⟩
              · rcases Nat.lt_or_ge k 81 with g80_82 | g80_82
                · obtain rfl : k = 80 := by omega
                  exact ⟨_, n_e80 aC q0 q1 u1 u2⟩
                · obtain rfl : k = 81 := by omega
                  exact ⟨_, n_e81 aC q0 q1 u1 u2⟩
  · rcases Nat.lt_or_ge k 123 with g82_165 | g82_165
    · rcases Nat.lt_or_ge k 102 with g82_123 | g82_123
      · rcases Nat.lt_or_ge k 92 with g82_102 | g82_102
        · rcases Nat.lt_or_ge k 87 with g82_92 | g82_92
          · rcases Nat.lt_or_ge k 84 with g82_87 | g82_87
            · rcases Nat.lt_or_ge k 83 with g82_84 | g82_84
              · obtain rfl : k = 82 := by omega
                exact ⟨_, n_e82 aC q0 q1 u1 u2⟩
              · obtain rfl : k = 83 := by omega
                exact ⟨_, n_e83 aC q0 q1 u1 u2⟩
            · rcases Nat.lt_or_ge k 85 with g84_87 | g84_87
              · obtain rfl : k = 84 := by omega
                exact ⟨_, n_e84 aC q0 q1 u1 u2⟩
              · rcases Nat.lt_or_ge k 86 with g85_87 | g85_87
                · obtain rfl : k = 85 := by omega
                  exact ⟨_, n_e85 aC q0 q1 u1 u2⟩
                · obtain rfl : k = 86 := by omega
                  exact ⟨_, n_e86 aC q0 q1 u1 u2⟩
          · rcases Nat.lt_or_ge k 89 with g87_92 | g87_92
            · rcases Nat.lt_or_ge k 88 with g87_89 | g87_89
              · obtain rfl : k = 87 := by omega
                exact ⟨_, n_e87 aC q0 q1 u1 u2⟩
              · obtain rfl : k = 88 := by omega
                exact ⟨_, n_e88 aC q0 q1 u1 u2⟩
            · rcases Nat.lt_or_ge k 90 with g89_92 | g89_92
              · obtain rfl : k = 89 := by omega
                exact ⟨_, n_e89 aC q0 q1 u1 u2⟩
              · rcases Nat.lt_or_ge k 91 with g90_92 | g90_92
                · obtain rfl : k = 90 := by omega
                  exact ⟨_, n_e90 aC q0 q1 u1 u2⟩
                · obtain rfl : k = 91 := by omega
                  exact ⟨_, n_e91 aC q0 q1 u1 u2⟩
        · rcases Nat.lt_or_ge k 97 with g92_102 | g92_102
          · rcases Nat.lt_or_ge k 94 with g92_97 | g92_97
            · rcases Nat.lt_or_ge k 93 with g92_94 | g92_94
              · obtain rfl : k = 92 := by omega
                exact ⟨_, n_e92 aC q0 q1 u1 u2⟩
              · obtain rfl : k = 93 := by omega
                exact ⟨_, n_e93 aC q0 q1 u1 u2⟩
            · rcases Nat.lt_or_ge k 95 with g94_97 | g94_97
              · obtain rfl : k = 94 := by omega
                exact ⟨_, n_e94 aC q0 q1 u1 u2⟩
              · rcases Nat.lt_or_ge k 96 with g95_97 | g95_97
                · obtain rfl : k = 95 := by omega
                  exact ⟨_, n_e95 aC q0 q1 u1 u2⟩
                · obtain rfl : k = 96 := by omega
                  exact ⟨_, n_e96 aC q0 q1 u1 u2⟩
          · rcases Nat.lt_or_ge k 99 with g97_102 | g97_102
            · rcases Nat.lt_or_ge k 98 with g97_99 | g97_99
              · obtain rfl : k = 97 := by omega
                exact ⟨_, n_e97 aC q0 q1 u1 u2⟩
              · obtain rfl : k = 98 := by omega
                exact ⟨_, n_e98 aC q0 q1 u1 u2⟩
            · rcases Nat.lt_or_ge k 100 with g99_102 | g99_102
              · obtain rfl : k = 99 := by omega
                exact ⟨_, n_e99 aC q0 q1 u1 u2⟩
              · rcases Nat.lt_or_ge k 101 with g100_102 | g100_102
                · obtain rfl : k = 100 := by omega
                  exact ⟨_, n_e100 aC q0 q1 u1 u2⟩
                · obtain rfl : k = 101 := by omega
                  exact ⟨_, n_e101 aC q0 q1 u1 u2⟩
      · rcases Nat.lt_or_ge k 112 with g102_123 | g102_123
        · rcases Nat.lt_or_ge k 107 with g102_112 | g102_112
          · rcases Nat.lt_or_ge k 104 with g102_107 | g102_107
            · rcases Nat.lt_or_ge k 103 with g102_104 | g102_104
              · obtain rfl : k = 102 := by omega
                exact ⟨_, n_e102 aC q0 q1 u1 u2⟩
              · obtain rfl : k = 103 := by omega
                exact ⟨_, n_e103 aC q0 q1 u1 u2⟩
            · rcases Nat.lt_or_ge k 105 with g104_107 | g104_107
              · obtain rfl : k = 104 := by omega
                exact ⟨_, n_e104 aC q0 q1 u1 u2⟩
              · rcases Nat.lt_or_ge k 106 with g105_107 | g105_107
                · obtain rfl : k = 105 := by omega
                  exact ⟨_, n_e105 aC q0 q1 u1 u2⟩
                · obtain rfl : k = 106 := by omega
                  exact ⟨_, n_e106 aC q0 q1 u1 u2⟩
          · rcases Nat.lt_or_ge k 109 with g107_112 | g107_112
            · rcases Nat.lt_or_ge k 108 with g107_109 | g107_109
              · obtain rfl : k = 107 := by omega
                exact ⟨_, n_e107 aC q0 q1 u1 u2⟩
              · obtain rfl : k = 108 := by omega
                exact ⟨_, n_e108 aC q0 q1 u1 u2⟩
            · rcases Nat.lt_or_ge k 110 with g109_112 | g109_112
              · obtain rfl : k = 109 := by omega
                exact ⟨_, n_e109 aC q0 q1 u1 u2⟩
              · rcases Nat.lt_or_ge k 111 with g110_112 | g110_112
                · obtain rfl : k = 110 := by omega
                  exact ⟨_, n_e110 aC q0 q1 u1 u2⟩
                · obtain rfl : k = 111 := by omega
                  exact ⟨_, n_e111 aC q0 q1 u1 u2⟩
        · rcases Nat.lt_or_ge k 117 with g112_123 | g112_123
          · rcases Nat.lt_or_ge k 114 with g112_117 | g112_117
            · rcases Nat.lt_or_ge k 113 with g112_114 | g112_114
              · obtain rfl : k = 112 := by omega
                exact ⟨_, n_e112 aC q0 q1 u1 u2⟩
              · obtain rfl : k = 113 := by omega
                exact ⟨_, n_e113 aC q0 q1 u1 u2⟩
            · rcases Nat.lt_or_ge k 115 with g114_117 | g114_117
              · obtain rfl : k = 114 := by omega
                exact ⟨_, n_e114 aC q0 q1 u1 u2⟩
              · rcases Nat.lt_or_ge k 116 with g115_117 | g115_117
                · obtain rfl : k = 115 := by omega
                  exact ⟨_, n_e115 aC q0 q1 u1 u2⟩
                · obtain rfl : k = 116 := by omega
                  exact ⟨_, n_e116 aC q0 q1 u1 u2⟩
          · rcases Nat.lt_or_ge k 120 with g117_123 | g117_123
            · rcases Nat.lt_or_ge k 118 with g117_120 | g117_120
              · obtain rfl : k = 117 := by omega
                exact ⟨_, n_e117 aC q0 q1 u1 u2⟩
              · rcases Nat.lt_or_ge k 119 with g118_120 | g118_120
                · obtain rfl : k = 118 := by omega
                  exact ⟨_, n_e118 aC q0 q1 u1 u2⟩
                · obtain rfl : k = 119 := by omega
                  exact ⟨_, n_e119 aC q0 q1 u1 u2⟩
            · rcases Nat.lt_or_ge k 121 with g120_123 | g120_123
              · obtain rfl : k = 120 := by omega
                exact ⟨_, n_e120 aC q0 q1 u1 u2⟩
              · rcases Nat.lt_or_ge k 122 with g121_123 | g121_123
                · obtain rfl : k = 121 := by omega
                  exact ⟨_, n_e121 aC q0 q1 u1 u2⟩
                · obtain rfl : k = 122 := by omega
                  exact ⟨_, n_e122 aC q0 q1 u1 u2⟩
    · rcases Nat.lt_or_ge k 144 with g123_165 | g123_165
      · rcases Nat.lt_or_ge k 133 with g123_144 | g123_144
        · rcases Nat.lt_or_ge k 128 with g123_133 | g123_133
          · rcases Nat.lt_or_ge k 125 with g123_128 | g123_128
            · rcases Nat.lt_or_ge k 124 with g123_125 | g123_125
              · obtain rfl : k = 123 := by omega
                exact ⟨_, n_e123 aC q0 q1 u1 u2⟩
              · obtain rfl : k = 124 := by omega
                exact ⟨_, n_e124 aC q0 q1 u1 u2⟩
            · rcases Nat.lt_or_ge k 126 with g125_128 | g125_128
              · obtain rfl : k = 125 := by omega
                exact ⟨_, n_e125 aC q0 q1 u1 u2⟩
              · rcases Nat.lt_or_ge k 127 with g126_128 | g126_128
                · obtain rfl : k = 126 := by omega
                  exact ⟨_, n_e126 aC q0 q1 u1 u2⟩
                · obtain rfl : k = 127 := by omega
                  exact ⟨_, n_e127 aC q0 q1 u1 u2⟩
          · rcases Nat.lt_or_ge k 130 with g128_133 | g128_133
            · rcases Nat.lt_or_ge k 129 with g128_130 | g128_130
              · obtain rfl : k = 128 := by omega
                exact ⟨_, n_e128 aC q0 q1 u1 u2⟩
              · obtain rfl : k = 129 := by omega
                exact ⟨_, n_e129 aC q0 q1 u1 u2⟩
            · rcases Nat.lt_or_ge k 131 with g130_133 | g130_133
              · obtain rfl : k = 130 := by omega
                exact ⟨_, n_e130 aC q0 q1 u1 u2⟩
              · rcases Nat.lt_or_ge k 132 with g131_133 | g131_133
                · obtain rfl : k = 131 := by omega
                  exact ⟨_, n_e131 aC q0 q1 u1 u2⟩
                · obtain rfl : k = 132 := by omega
                  exact ⟨_, n_e132 aC q0 q1 u1 u2⟩
        · rcases Nat.lt_or_ge k 138 with g133_144 | g133_144
          · rcases Nat.lt_or_ge k 135 with g133_138 | g133_138
            · rcases Nat.lt_or_ge k 134 with g133_135 | g133_135
              · obtain rfl : k = 133 := by omega
                exact ⟨_, n_e133 aC q0 q1 u1 u2⟩
              · obtain rfl : k = 134 := by omega
                exact ⟨_, n_e134 aC q0 q1 u1 u2⟩
            · rcases Nat.lt_or_ge k 136 with g135_138 | g135_138
              · obtain rfl : k = 135 := by omega
                exact ⟨_, n_e135 aC q0 q1 u1 u2⟩
              · rcases Nat.lt_or_ge k 137 with g136_138 | g136_138
                · obtain rfl : k = 136 := by omega
                  exact ⟨_, n_e136 aC q0 q1 u1 u2⟩
                · obtain rfl : k = 137 := by omega
                  exact ⟨_, n_e137 aC q0 q1 u1 u2⟩
          · rcases Nat.lt_or_ge k 141 with g138_144 | g138_144
            · rcases Nat.lt_or_ge k 139 with g138_141 | g138_141
              · obtain rfl : k = 138 := by omega
                exact ⟨_, n_e138 aC q0 q1 u1 u2⟩
              · rcases Nat.lt_or_ge k 140 with g139_141 | g139_141
                · obtain rfl : k = 139 := by omega
                  exact ⟨_, n_e139 aC q0 q1 u1 u2⟩
                · obtain rfl : k = 140 := by omega
                  exact ⟨_, n_e140 aC q0 q1 u1 u2⟩
            · rcases Nat.lt_or_ge k 142 with g141_144 | g141_144
              · obtain rfl : k = 141 := by omega
                exact ⟨_, n_e141 aC q0 q1 u1 u2⟩
              · rcases Nat.lt_or_ge k 143 with g142_144 | g142_144
                · obtain rfl : k = 142 := by omega
                  exact ⟨_, n_e142 aC q0 q1 u1 u2⟩
                · obtain rfl : k = 143 := by omega
                  exact ⟨_, n_e143 aC q0 q1 u1 u2⟩
      · rcases Nat.lt_or_ge k 154 with g144_165 | g144_165
        · rcases Nat.lt_or_ge k 149 with g144_154 | g144_154
          · rcases Nat.lt_or_ge k 146 with g144_149 | g144_149
            · rcases Nat.lt_or_ge k 145 with g144_146 | g144_146
              · obtain rfl : k = 144 := by omega
                exact ⟨_, n_e144 aC q0 q1 u1 u2⟩
              · obtain rfl : k = 145 := by omega
                exact ⟨_, n_e145 aC q0 q1 u1 u2⟩
            · rcases Nat.lt_or_ge k 147 with g146_149 | g146_149
              · obtain rfl : k = 146 := by omega
                exact ⟨_, n_e146 aC q0 q1 u1 u2⟩
              · rcases Nat.lt_or_ge k 148 with g147_149 | g147_149
                · obtain rfl : k = 147 := by omega
                  exact ⟨_, n_e147 aC q0 q1 u1 u2⟩
                · obtain rfl : k = 148 := by omega
                  exact ⟨_, n_e148 aC q0 q1 u1 u2⟩
          · rcases Nat.lt_or_ge k 151 with g149_154 | g149_154
            · rcases Nat.lt_or_ge k 150 with g149_151 | g149_151
              · obtain rfl : k = 149 := by omega
                exact ⟨_, n_e149 aC q0 q1 u1 u2⟩
              · obtain rfl : k = 150 := by omega
                exact ⟨_, n_e150 aC q0 q1 u1 u2⟩
            · rcases Nat.lt_or_ge k 152 with g151_154 | g151_154
              · obtain rfl : k = 151 := by omega
                exact ⟨_, n_e151 aC q0 q1 u1 u2⟩
              · rcases Nat.lt_or_ge k 153 with g152_154 | g152_154
                · obtain rfl : k = 152 := by omega
                  exact ⟨_, n_e152 aC q0 q1 u1 u2⟩
                · obtain rfl : k = 153 := by omega
                  exact ⟨_, n_e153 aC q0 q1 u1 u2⟩
        · rcases Nat.lt_or_ge k 159 with g154_165 | g154_165
          · rcases Nat.lt_or_ge k 156 with g154_159 | g154_159
            · rcases Nat.lt_or_ge k 155 with g154_156 | g154_156
              · obtain rfl : k = 154 := by omega
                exact ⟨_, n_e154 aC q0 q1 u1 u2⟩
              · obtain rfl : k = 155 := by omega
                exact ⟨_, n_e155 aC q0 q1 u1 u2⟩
            · rcases Nat.lt_or_ge k 157 with g156_159 | g156_159
              · obtain rfl : k = 156 := by omega
                exact ⟨_, n_e156 aC q0 q1 u1 u2⟩
              · rcases Nat.lt_or_ge k 158 with g157_159 | g157_159
                · obtain rfl : k = 157 := by omega
                  exact ⟨_, n_e157 aC q0 q1 u1 u2⟩
                · obtain rfl : k = 158 := by omega
                  exact ⟨_, n_e158 aC q0 q1 u1 u2⟩
          · rcases Nat.lt_or_ge k 162 with g159_165 | g159_165
            · rcases Nat.lt_or_ge k 160 with g159_162 | g159_162
              · obtain rfl : k = 159 := by omega
                exact ⟨_, n_e159 aC q0 q1 u1 u2⟩
              · rcases Nat.lt_or_ge k 161 with g160_162 | g160_162
                · obtain rfl : k = 160 := by omega
                  exact ⟨_, n_e160 aC q0 q1 u1 u2⟩
                · obtain rfl : k = 161 := by omega
                  exact ⟨_, n_e161 aC q0 q1 u1 u2⟩
            · rcases Nat.lt_or_ge k 163 with g162_165 | g162_165
              · obtain rfl : k = 162 := by omega
                exact ⟨_, n_e162 aC q0 q1 u1 u2⟩
              · rcases Nat.lt_or_ge k 164 with g163_165 | g163_165
                · obtain rfl : k = 163 := by omega
                  exact ⟨_, n_e163 aC q0 q1 u1 u2⟩
                · obtain rfl : k = 164 := by omega
                  exact ⟨_, n_e164 aC q0 q1 u1 u2⟩
theorem n_made (dC : Nat → ClassId) (dI : Nat → Nat → Nat) (aC : Nat → ClassId) (q0 q1 : Nat) (u1 u2 : Nat → Nat) {A : Nat → Prop} {H : Heap} (hP : va_P (dC, dI) vwCl (n_W aC q0 q1 u1 u2) H) (hD : va_D A (n_W aC q0 q1 u1 u2)) : va_P (dC, dI) vwCl (q_ws ((dC, dI, aC, n_ad q0 q1 u1 u2) : q_E) n_mu) H ∧ (∀ i j, i < 165 → j < 165 → n_ad q0 q1 u1 u2 i = n_ad q0 q1 u1 u2 j → i = j) ∧ ∀ k, k < 165 → A (n_ad q0 q1 u1 u2 k) := by
  refine ⟨?_, ?_, ?_⟩
  · rw [n_P_iff]
    intro q hq
    obtain ⟨k, hk, rfl⟩ := List.mem_map.mp hq
    exact n_vall dC dI aC q0 q1 u1 u2 hP k (List.mem_range.mp hk)
  · intro i j hi hj he
    obtain ⟨e1, h1⟩ := n_eall aC q0 q1 u1 u2 i hi
    obtain ⟨e2, h2⟩ := n_eall aC q0 q1 u1 u2 j hj
    exact n_pos_inj i hi j hj (hD.1 _ _ _ _ h1 h2 he)
  · intro k hk
    obtain ⟨e1, h1⟩ := n_eall aC q0 q1 u1 u2 k hk
    exact hD.2 _ _ h1
