/-! the class's numbers of products: their codes, and back -/
def PQS : List Nat := [0, 1, 6, 36, 216, 1296, 2, 7, 37, 217, 1297, 12, 42, 222, 1302, 72, 252, 1332, 432, 1512, 2592, 3, 8, 38, 218, 1298, 13, 43, 223, 1303, 73, 253, 1333, 433, 1513, 2593, 18, 48, 228, 1308, 78, 258, 1338, 438, 1518, 2598, 108, 288, 1368, 468, 1548, 2628, 648, 1728, 2808, 3888, 4, 9, 39, 219, 1299, 14, 44, 224, 1304, 74, 254, 1334, 434, 1514, 2594, 19, 49, 229, 1309, 79, 259, 1339, 439, 1519, 2599, 109, 289, 1369, 469, 1549, 2629, 649, 1729, 2809, 3889, 24, 54, 234, 1314, 84, 264, 1344, 444, 1524, 2604, 114, 294, 1374, 474, 1554, 2634, 654, 1734, 2814, 3894, 144, 324, 1404, 504, 1584, 2664, 684, 1764, 2844, 3924, 864, 1944, 3024, 4104, 5184, 5, 10, 40, 220, 1300, 15, 45, 225, 1305, 75, 255, 1335, 435, 1515, 2595, 20, 50, 230, 1310, 80, 260, 1340, 440, 1520, 2600, 110, 290, 1370, 470, 1550, 2630, 650, 1730, 2810, 3890, 25, 55, 235, 1315, 85, 265, 1345, 445, 1525, 2605, 115, 295, 1375, 475, 1555, 2635, 655, 1735, 2815, 3895, 145, 325, 1405, 505, 1585, 2665, 685, 1765, 2845, 3925, 865, 1945, 3025, 4105, 5185, 30, 60, 240, 1320, 90, 270, 1350, 450, 1530, 2610, 120, 300, 1380, 480, 1560, 2640, 660, 1740, 2820, 3900, 150, 330, 1410, 510, 1590, 2670, 690, 1770, 2850, 3930, 870, 1950, 3030, 4110, 5190, 180, 360, 1440, 540, 1620, 2700, 720, 1800, 2880, 3960, 900, 1980, 3060, 4140, 5220, 1080, 2160, 3240, 4320, 5400, 6480]
def KPS : List Nat := [0, 1, 6, 21, 56, 126, 2, 7, 22, 57, 127, 11, 26, 61, 131, 36, 71, 141, 91, 161, 196, 3, 8, 23, 58, 128, 12, 27, 62, 132, 37, 72, 142, 92, 162, 197, 15, 30, 65, 135, 40, 75, 145, 95, 165, 200, 46, 81, 151, 101, 171, 206, 111, 181, 216, 231, 4, 9, 24, 59, 129, 13, 28, 63, 133, 38, 73, 143, 93, 163, 198, 16, 31, 66, 136, 41, 76, 146, 96, 166, 201, 47, 82, 152, 102, 172, 207, 112, 182, 217, 232, 18, 33, 68, 138, 43, 78, 148, 98, 168, 203, 49, 84, 154, 104, 174, 209, 114, 184, 219, 234, 52, 87, 157, 107, 177, 212, 117, 187, 222, 237, 121, 191, 226, 241, 246, 5, 10, 25, 60, 130, 14, 29, 64, 134, 39, 74, 144, 94, 164, 199, 17, 32, 67, 137, 42, 77, 147, 97, 167, 202, 48, 83, 153, 103, 173, 208, 113, 183, 218, 233, 19, 34, 69, 139, 44, 79, 149, 99, 169, 204, 50, 85, 155, 105, 175, 210, 115, 185, 220, 235, 53, 88, 158, 108, 178, 213, 118, 188, 223, 238, 122, 192, 227, 242, 247, 20, 35, 70, 140, 45, 80, 150, 100, 170, 205, 51, 86, 156, 106, 176, 211, 116, 186, 221, 236, 54, 89, 159, 109, 179, 214, 119, 189, 224, 239, 123, 193, 228, 243, 248, 55, 90, 160, 110, 180, 215, 120, 190, 225, 240, 124, 194, 229, 244, 249, 125, 195, 230, 245, 250, 251]
def LVS : List Nat := [0, 0, 1, 2, 3, 4, 0, 1, 2, 3, 4, 1, 2, 3, 4, 2, 3, 4, 3, 4, 4, 0, 1, 2, 3, 4, 1, 2, 3, 4, 2, 3, 4, 3, 4, 4, 1, 2, 3, 4, 2, 3, 4, 3, 4, 4, 2, 3, 4, 3, 4, 4, 3, 4, 4, 4, 0, 1, 2, 3, 4, 1, 2, 3, 4, 2, 3, 4, 3, 4, 4, 1, 2, 3, 4, 2, 3, 4, 3, 4, 4, 2, 3, 4, 3, 4, 4, 3, 4, 4, 4, 1, 2, 3, 4, 2, 3, 4, 3, 4, 4, 2, 3, 4, 3, 4, 4, 3, 4, 4, 4, 2, 3, 4, 3, 4, 4, 3, 4, 4, 4, 3, 4, 4, 4, 4, 0, 1, 2, 3, 4, 1, 2, 3, 4, 2, 3, 4, 3, 4, 4, 1, 2, 3, 4, 2, 3, 4, 3, 4, 4, 2, 3, 4, 3, 4, 4, 3, 4, 4, 4, 1, 2, 3, 4, 2, 3, 4, 3, 4, 4, 2, 3, 4, 3, 4, 4, 3, 4, 4, 4, 2, 3, 4, 3, 4, 4, 3, 4, 4, 4, 3, 4, 4, 4, 4, 1, 2, 3, 4, 2, 3, 4, 3, 4, 4, 2, 3, 4, 3, 4, 4, 3, 4, 4, 4, 2, 3, 4, 3, 4, 4, 3, 4, 4, 4, 3, 4, 4, 4, 4, 2, 3, 4, 3, 4, 4, 3, 4, 4, 4, 3, 4, 4, 4, 4, 3, 4, 4, 4, 4, 4]
def pq (p : Nat) : Nat := PQS.getD p 0
def kp (p : Nat) : Nat := KPS.getD p 0
def lv (p : Nat) : Nat := LVS.getD p 0
/-- the number of a code's product -/
def qp (c : Nat) : Nat := kp (rk c)
def UPS : List Nat := [1, 6, 21, 56, 126, 252]
def upn (j : Nat) : Nat := UPS.getD j 0
def chk (f : Nat → Bool) : Nat → Bool
  | 0 => true
  | n + 1 => f n && chk f n
theorem chk_ok {f : Nat → Bool} : ∀ {n k : Nat}, chk f n = true → k < n → f k = true
  | 0, k, _, h => by omega
  | n + 1, k, h, hk => by
    unfold chk at h
    rw [Bool.and_eq_true] at h
    by_cases e : k = n
    · rw [e]; exact h.1
    · exact chk_ok h.2 (by omega)
set_option maxRecDepth 100000 in
theorem kp_chk : chk (fun p => Nat.beq (cd (kp p)) (pq p) && (Nat.beq (kp (kp p)) p && Nat.blt (kp p) 252)) 252 = true := by decide +kernel
theorem kp_ok {p : Nat} (h : p < 252) : cd (kp p) = pq p ∧ kp (kp p) = p ∧ kp p < 252 := by
  have h1 := chk_ok kp_chk h
  simp only [Bool.and_eq_true] at h1
  exact ⟨Nat.eq_of_beq_eq_true h1.1, Nat.eq_of_beq_eq_true h1.2.1, Nat.le_of_ble_eq_true h1.2.2⟩
theorem pq_vc {p : Nat} (h : p < 252) : vc (pq p) := by
  obtain ⟨h1, -, h3⟩ := kp_ok h
  rw [← h1]; exact (rk_cd h3).1
theorem qp_pq {p : Nat} (h : p < 252) : qp (pq p) = p := by
  obtain ⟨h1, h2, h3⟩ := kp_ok h
  unfold qp
  rw [← h1, (rk_cd h3).2, h2]
theorem pq_qp {c : Nat} (h : vc c) : pq (qp c) = c ∧ qp c < 252 := by
  obtain ⟨h1, h2⟩ := cd_rk h
  obtain ⟨h3, h4, h5⟩ := kp_ok h2
  obtain ⟨h6, -, -⟩ := kp_ok h5
  unfold qp
  refine ⟨?_, h5⟩
  rw [← h6, h4, h1]
theorem pq_inj {p p' : Nat} (h : p < 252) (h' : p' < 252) (e : pq p = pq p') : p = p' := by
  rw [← qp_pq h, e, qp_pq h']
set_option maxRecDepth 100000 in
theorem up_chk : chk (fun p => chk (fun j => decide (degc (pq p) ≤ j) == Nat.blt p (upn j)) 6) 252 = true := by decide +kernel
theorem pq_deg {p j : Nat} (h : p < 252) (hj : j ≤ 5) : degc (pq p) ≤ j ↔ p < upn j := by
  have h0 : chk (fun j => decide (degc (pq p) ≤ j) == Nat.blt p (upn j)) 6 = true := chk_ok (f := fun p => chk (fun j => decide (degc (pq p) ≤ j) == Nat.blt p (upn j)) 6) up_chk h
  have h1 : (decide (degc (pq p) ≤ j) == Nat.blt p (upn j)) = true := chk_ok (f := fun j => decide (degc (pq p) ≤ j) == Nat.blt p (upn j)) h0 (by omega : j < 6)
  have h2 : decide (degc (pq p) ≤ j) = Nat.blt p (upn j) := eq_of_beq h1
  constructor
  · intro h3
    rw [decide_eq_true h3] at h2
    exact Nat.le_of_ble_eq_true h2.symm
  · intro h3
    rw [show Nat.blt p (upn j) = true from Nat.ble_eq_true_of_le h3] at h2
    exact of_decide_eq_true h2
theorem upn_le (j : Nat) (hj : j ≤ 5) : 1 ≤ upn j ∧ upn j ≤ 252 := by
  rcases lowm hj with rfl | rfl | rfl | rfl | rfl | rfl <;> decide
set_option maxRecDepth 100000 in
theorem lv_chk : chk (fun p => Nat.blt (lv p) 5 && chk (fun v => Nat.blt (lv p) (v + 2) == Nat.blt (pq p) (6 ^ (v + 2))) 3) 252 = true := by decide +kernel
theorem lv_ok {p v : Nat} (h : p < 252) (h2 : 2 ≤ v) (h4 : v ≤ 4) : lv p < 5 ∧ (lv p < v ↔ pq p < 6 ^ v) := by
  have h1 : (Nat.blt (lv p) 5 && chk (fun v => Nat.blt (lv p) (v + 2) == Nat.blt (pq p) (6 ^ (v + 2))) 3) = true := chk_ok (f := fun p => Nat.blt (lv p) 5 && chk (fun v => Nat.blt (lv p) (v + 2) == Nat.blt (pq p) (6 ^ (v + 2))) 3) lv_chk h
  rw [Bool.and_eq_true] at h1
  have h3 : (Nat.blt (lv p) (v - 2 + 2) == Nat.blt (pq p) (6 ^ (v - 2 + 2))) = true := chk_ok (f := fun v => Nat.blt (lv p) (v + 2) == Nat.blt (pq p) (6 ^ (v + 2))) h1.2 (by omega : v - 2 < 3)
  rw [show v - 2 + 2 = v by omega] at h3
  have h5 : Nat.blt (lv p) v = Nat.blt (pq p) (6 ^ v) := eq_of_beq h3
  refine ⟨Nat.le_of_ble_eq_true h1.1, fun h => ?_, fun h => ?_⟩
  · rw [show Nat.blt (lv p) v = true from Nat.ble_eq_true_of_le h] at h5
    exact Nat.le_of_ble_eq_true h5.symm
  · rw [show Nat.blt (pq p) (6 ^ v) = true from Nat.ble_eq_true_of_le h] at h5
    exact Nat.le_of_ble_eq_true h5
/-- what the class's tables hold -/
def CTab (mi : Nat → Nat → Int32) : Prop := (∀ v p, v < 5 → p < 252 → mi (13 + v) p = if degc (pq p) < 5 then zi (qp (pq p + 6 ^ v)) else -1) ∧ (∀ p, p < 252 → mi 18 p = zi (lv p)) ∧ (∀ j, j < 6 → mi 2 j = zi (upn j)) ∧ (∀ j, j < 30 → mi 3 j = smT.getD j 0)
def CPo (a : Nat) (P : Po) (ml : Nat → Nat → Int64) : Prop := ∀ p, p < 252 → ml a p = P (pq p)
theorem CPo_congr {a : Nat} {P R : Po} {ml} (h : CPo a P ml) (e : peq P R) : CPo a R ml := fun p hp => (h p hp).trans (e _ (pq_vc hp))
theorem CPo_mv {a : Nat} {P : Po} {ml ml' : Nat → Nat → Int64} (h : CPo a P ml) (e : ml' a = ml a) : CPo a P ml' := fun p hp => by rw [e]; exact h p hp
/-- of the longs one row alone has changed -/
def OF (a : Nat) (ml ml' : Nat → Nat → Int64) : Prop := ∀ b, b ≠ a → ml' b = ml b
theorem OF_refl (a ml) : OF a ml ml := fun _ _ => rfl
theorem OF_trans {a x y z} (h : OF a x y) (h' : OF a y z) : OF a x z := fun b hb => (h' b hb).trans (h b hb)
theorem OF_up {a i : Nat} {v : Int64} {ml : Nat → Nat → Int64} : OF a ml (up2 ml a i v) := fun b hb => up2_n _ _ hb
theorem Sh_del_no {r a : Nat} (hr : r < 7776) (hd : 6 ≤ degc a + degc r) : peq (Sh r (del a)) (fun _ => 0) := by
  intro c hc
  unfold Sh del
  by_cases hs : sb r c
  · rw [if_pos hs, if_neg]
    intro e
    have := degc_sub hr hc.1 hs
    rw [e] at this
    have := hc.2
    omega
  · rw [if_neg hs]
theorem six_vc {v : Nat} (h : v < 5) : 6 ^ v < 7776 ∧ degc (6 ^ v) = 1 := ⟨by have := six_lt h; omega, six_deg h⟩
/-- the part of a polynomial from a product on -/
def hip (K : Nat) (P : Po) : Po := fun c => if K ≤ qp c then P c else 0
def lop (K : Nat) (P : Po) : Po := fun c => if K ≤ qp c then 0 else P c
theorem mulE_add {e : Nat → Int64} {d : Nat} {P R : Po} (c : Nat) : mulE e d (fun c => P c + R c) c = mulE e d P c + mulE e d R c := by
  show sm (3 + d) _ = sm (3 + d) _ + sm (3 + d) _
  rw [← sm_add]
  refine sm_congr (fun v _ => ?_)
  unfold Sh
  by_cases h : sb (sv v) c
  · simp only [if_pos h, Int64.mul_add]
  · simp only [if_neg h, Int64.mul_zero]; rfl
theorem mulE_sc {e : Nat → Int64} {d : Nat} {w : Int64} {P : Po} (c : Nat) : mulE e d (fun c => w * P c) c = w * mulE e d P c := by
  show sm (3 + d) _ = w * sm (3 + d) _
  rw [sm_mul]
  refine sm_congr (fun v _ => ?_)
  unfold Sh
  by_cases h : sb (sv v) c
  · simp only [if_pos h]
    rw [← Int64.mul_assoc, Int64.mul_comm (e v), Int64.mul_assoc]
  · simp only [if_neg h, Int64.mul_zero]
theorem hip_S {P : Po} {K : Nat} (hK : K < 252) : peq (hip K P) (fun c => hip (K + 1) P c + P (pq K) * del (pq K) c) := by
  intro c hc
  unfold hip del
  by_cases e : c = pq K
  · subst e
    show _ = (if K + 1 ≤ qp (pq K) then P (pq K) else 0) + P (pq K) * (if pq K = pq K then 1 else 0)
    rw [qp_pq hK, if_pos (Nat.le_refl _), if_neg (by omega), if_pos rfl, Int64.mul_one, Int64.zero_add]
  · have h1 : qp c ≠ K := fun h => e (by rw [← h, (pq_qp hc).1])
    show _ = (if K + 1 ≤ qp c then P c else 0) + P (pq K) * (if c = pq K then 1 else 0)
    rw [if_neg e, Int64.mul_zero, Int64.add_zero]
    by_cases h : K ≤ qp c
    · rw [if_pos h, if_pos (by omega)]
    · rw [if_neg h, if_neg (by omega)]
/-- nothing comes to a product out of one that is not ahead of it -/
theorem mulE_low {e : Nat → Int64} {d K : Nat} {P : Po} (hd : d ≤ 3) (hK : K < 252) : mulE e d (hip (K + 1) P) (pq K) = 0 := by
  refine sm_zero (fun v hv => ?_)
  show e v * Sh (sv v) (hip (K + 1) P) (pq K) = 0
  unfold Sh
  by_cases hs : sb (sv v) (pq K)
  · have hv7 := sv_lt (v := v) (by omega)
    have hvc := vc_sub hv7 (pq_vc hK) hs
    obtain ⟨q1, q2⟩ := pq_qp hvc
    rw [if_pos hs]
    unfold hip
    rw [if_neg, Int64.mul_zero]
    intro h
    cases v with
    | zero =>
      rw [show sv 0 = 0 from rfl, Nat.sub_zero, qp_pq hK] at h
      omega
    | succ v =>
      have h1 := degc_sub hv7 (pq_vc hK).1 hs
      have h2 : degc (sv (v + 1)) = 1 := six_deg (by omega)
      have h3 := (not_congr (pq_deg hK (j := degc (pq K) - 1) (by have := (pq_vc hK).2; omega))).mp (by omega)
      have h4 := (pq_deg q2 (j := degc (pq K) - 1) (by have := (pq_vc hK).2; omega)).mp (by rw [q1]; omega)
      omega
  · rw [if_neg hs, Int64.mul_zero]
theorem mulE_del {e : Nat → Int64} {d a c : Nat} : mulE e d (del a) c = e 0 * Sh (sv 0) (del a) c + sm (2 + d) (fun v => e (v + 1) * Sh (6 ^ v) (del a) c) := by
  have h : ∀ (f : Nat → Int64) (n : Nat), sm (n + 1) f = f 0 + sm n (fun v => f (v + 1)) := by
    intro f n
    induction n with
    | zero => show 0 + f 0 = f 0 + 0; rw [Int64.zero_add, Int64.add_zero]
    | succ n ih => show sm (n + 1) f + f (n + 1) = f 0 + (sm n (fun v => f (v + 1)) + f (n + 1)); rw [ih, Int64.add_assoc]
  show sm (3 + d) _ = _
  rw [show 3 + d = (2 + d) + 1 by omega, h]
  rfl
theorem Sh_s0 (P : Po) (c : Nat) (hc : c < 7776) : Sh (sv 0) P c = P c := by
  unfold Sh
  rw [show sv 0 = 0 from rfl, if_pos (sb_iff.mpr ⟨Nat.zero_le _, Nat.zero_le _, Nat.zero_le _, Nat.zero_le _, Nat.zero_le _⟩), Nat.sub_zero]
