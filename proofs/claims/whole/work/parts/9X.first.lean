/-! the first state: shapes and what comes of allocations -/
def SAL : List (Nat × Nat) := [(0, 0), (0, 0), (30, 6), (30, 30), (11, 7), (24, 8), (20, 6), (20, 6), (9, 2), (20, 16), (6, 7), (5, 2), (25, 5), (20, 252), (20, 252), (20, 252), (20, 252), (20, 252), (20, 252), (20, 252), (26, 18), (21, 252), (21, 252), (21, 252), (21, 252), (21, 252), (21, 252), (21, 252), (21, 252), (21, 252), (21, 252), (21, 252), (21, 252), (21, 252), (21, 252), (21, 252), (21, 252), (21, 252), (21, 252), (21, 252), (21, 252), (8, 7), (7, 12), (23, 24), (20, 24), (26, 2), (21, 36), (21, 36), (20, 2), (21, 5), (21, 5), (7, 12), (23, 24), (20, 24), (26, 2), (21, 36), (21, 36), (20, 2), (21, 5), (21, 5), (7, 12), (23, 24), (20, 24), (26, 2), (21, 36), (21, 36), (20, 2), (21, 5), (21, 5), (7, 12), (23, 24), (20, 24), (26, 2), (21, 36), (21, 36), (20, 2), (21, 5), (21, 5), (7, 12), (23, 24), (20, 24), (26, 2), (21, 36), (21, 36), (20, 2), (21, 5), (21, 5), (7, 12), (23, 24), (20, 24), (26, 2), (21, 36), (21, 36), (20, 2), (21, 5), (21, 5), (7, 12), (23, 24), (20, 24), (26, 2), (21, 36), (21, 36), (20, 2), (21, 5), (21, 5), (7, 12), (23, 24), (20, 24), (26, 2), (21, 36), (21, 36), (20, 2), (21, 5), (21, 5), (12, 40), (20, 8), (20, 192), (20, 192), (20, 192), (20, 2304), (20, 12), (20, 16), (20, 1260), (20, 7776), (20, 24), (20, 24), (21, 17640), (22, 8), (22, 8), (22, 16), (21, 252), (21, 252), (20, 30), (20, 24), (20, 24), (20, 3), (20, 220), (20, 220), (20, 220), (21, 220), (21, 220), (20, 1540)]
def sF (L a : Nat) : Nat × Nat := if a = 1 then (30, L) else SAL.getD a (0, 0)
/-- the first n places have their shapes -/
def sN (L n : Nat) : Nat → Nat × Nat := fun a => if a < n then sF L a else (0, 0)
def Z0 : Nat → Nat → Int64 := fun _ _ => 0
def Zi (n : Nat) (m : Nat → Nat → Int32) : Prop := ∀ a, n ≤ a → m a = fun _ => 0
def Zn (n : Nat) (m : Nat → Nat → Nat) : Prop := ∀ a, n ≤ a → m a = fun _ => 0
theorem Zi_le {n n' m} (h : Zi n m) (hn : n ≤ n') : Zi n' m := fun a ha => h a (by omega)
theorem Zn_le {n n' m} (h : Zn n m) (hn : n ≤ n') : Zn n' m := fun a ha => h a (by omega)
theorem Zi_up {n m a f v} (h : Zi n m) (ha : a < n) : Zi n (up2 m a f v) := fun b hb => (up2_n _ _ (by omega)).trans (h b hb)
theorem Zn_up {n : Nat} {m : Nat → Nat → Nat} {a f v} (h : Zn n m) (ha : a < n) : Zn n (up2 m a f v) := fun b hb => (up2_n _ _ (by omega)).trans (h b hb)
theorem sN_lt {L n a : Nat} (h : a < n) : sN L n a = sF L a := if_pos h
theorem sF_c {L a : Nat} (h : a ≠ 1) : sF L a = SAL.getD a (0, 0) := if_neg h
theorem sN_at {L n a : Nat} {v : Nat × Nat} (h : a < n) (h1 : a ≠ 1) (e : SAL.getD a (0, 0) = v) : sN L n a = v := by rw [sN_lt h, sF_c h1, e]
theorem sN_up {L n : Nat} {v : Nat × Nat} (h1 : n ≠ 1) (e : SAL.getD n (0, 0) = v) : up1 (sN L n) n v = sN L (n + 1) := by
  funext a
  by_cases ha : a = n
  · rw [ha, up1_s, sN_at (by omega) h1 e]
  · rw [up1_n _ _ ha]
    unfold sN
    by_cases h : a < n
    · rw [if_pos h, if_pos (by omega)]
    · rw [if_neg h, if_neg (by omega)]
theorem up1_z {α : Type} {m : Nat → α} {n : Nat} {v : α} (h : m n = v) : up1 m n v = m := by
  funext a
  by_cases ha : a = n
  · rw [ha, up1_s, h]
  · rw [up1_n _ _ ha]
theorem nwE {L n m : Nat} {mi : Nat → Nat → Int32} {mr : Nat → Nat → Nat} {kd l : Nat} (h4 : 4 ≤ n) (hi : Zi n mi) (hr : Zn n mr) (e : SAL.getD n (0, 0) = (kd, l)) : hNw ((sN L n, (n, m), mi, Z0, mr) : Hp) kd l = some (sN L (n + 1), (n + 1, m + l), mi, Z0, mr) := by
  unfold hNw
  rw [show Nat.ble 4 ((sN L n, (n, m), mi, Z0, mr) : Hp).2.1.1 = true from Nat.ble_eq_true_of_le h4, cnd_t]
  show some (up1 (sN L n) n (kd, l), (n + 1, m + l), up1 mi n (fun _ => 0), up1 Z0 n (fun _ => 0), up1 mr n (fun _ => 0)) = _
  rw [sN_up (by omega) e, up1_z (hi n (Nat.le_refl _)), up1_z (show Z0 n = (fun _ => 0) from rfl), up1_z (hr n (Nat.le_refl _))]
theorem naE {L n m : Nat} {mi : Nat → Nat → Int32} {mr : Nat → Nat → Nat} {kd l : Nat} {v : Int32} (h4 : 4 ≤ n) (hi : Zi n mi) (hr : Zn n mr) (e : SAL.getD n (0, 0) = (kd, l)) (hv : (decide (0 ≤ v) && Nat.ble v.toNatClampNeg 100000) = true) (hl : v.toNatClampNeg = l) : hNa ((sN L n, (n, m), mi, Z0, mr) : Hp) kd v = some (sN L (n + 1), (n + 1, m + l), mi, Z0, mr) := by
  unfold hNa
  rw [show Nat.ble 4 ((sN L n, (n, m), mi, Z0, mr) : Hp).2.1.1 = true from Nat.ble_eq_true_of_le h4, hv, Bool.and_self, cnd_t, hl]
  show some (up1 (sN L n) n (kd, l), (n + 1, m + l), up1 mi n (fun _ => 0), up1 Z0 n (fun _ => 0), up1 mr n (fun _ => 0)) = _
  rw [sN_up (by omega) e, up1_z (hi n (Nat.le_refl _)), up1_z (show Z0 n = (fun _ => 0) from rfl), up1_z (hr n (Nat.le_refl _))]
theorem muE {L n m : Nat} {mi : Nat → Nat → Int32} {mr : Nat → Nat → Nat} {kO kI N K : Nat} (h4 : 4 ≤ n) (hi : Zi n mi) (hr : Zn n mr) (e : SAL.getD n (0, 0) = (kO, N)) (e2 : ∀ j, 1 ≤ j → j ≤ N → SAL.getD (n + j) (0, 0) = (kI, K)) : hMu ((sN L n, (n, m), mi, Z0, mr) : Hp) kO kI N K = (sN L (n + (1 + N)), (n + (1 + N), m + (N + N * K)), mi, Z0, up1 mr n (fun j => if j < N then n + 1 + j else 0)) := by
  unfold hMu
  show (_, _, _, _, _) = (_, _, _, _, _)
  congr 1
  · funext a
    show (if a = n then (kO, N) else if n < a ∧ a ≤ n + N then (kI, K) else sN L n a) = sN L (n + (1 + N)) a
    by_cases ha : a = n
    · rw [if_pos ha, ha, sN_at (by omega) (by omega) e]
    · rw [if_neg ha]
      by_cases h2 : n < a ∧ a ≤ n + N
      · rw [if_pos h2]
        have := e2 (a - n) (by omega) (by omega)
        rw [show n + (a - n) = a by omega] at this
        rw [sN_at (by omega) (by omega) this]
      · rw [if_neg h2]
        unfold sN
        by_cases h : a < n
        · rw [if_pos h, if_pos (by omega)]
        · rw [if_neg h, if_neg (by omega)]
  · congr 1
    congr 1
    · funext a
      show (if n ≤ a ∧ a ≤ n + N then (fun _ => 0) else mi a) = mi a
      by_cases h : n ≤ a ∧ a ≤ n + N
      · rw [if_pos h, hi a h.1]
      · rw [if_neg h]
    · congr 1
      · funext a
        show (if n ≤ a ∧ a ≤ n + N then (fun _ => 0) else Z0 a) = Z0 a
        by_cases h : n ≤ a ∧ a ≤ n + N
        · rw [if_pos h]; rfl
        · rw [if_neg h]
      · funext a
        show (if a = n then (fun j => if j < N then n + 1 + j else 0) else if n ≤ a ∧ a ≤ n + N then (fun _ => 0) else mr a) = up1 mr n (fun j => if j < N then n + 1 + j else 0) a
        by_cases ha : a = n
        · rw [if_pos ha, ha, up1_s]
        · rw [if_neg ha, up1_n _ _ ha]
          by_cases h : n ≤ a ∧ a ≤ n + N
          · rw [if_pos h, hr a h.1]
          · rw [if_neg h]