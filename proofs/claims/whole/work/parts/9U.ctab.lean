/-! the class's tables: how they come about -/
def FCS : List Nat := [1, 6, 11, 15, 18, 20, 21, 26, 30, 33, 35, 36, 40, 43, 45, 46, 49, 51, 52, 54, 55, 56, 61, 65, 68, 70, 71, 75, 78, 80, 81, 84, 86, 87, 89, 90, 91, 95, 98, 100, 101, 104, 106, 107, 109, 110, 111, 114, 116, 117, 119, 120, 121, 123, 124, 125, 126, 131, 135, 138, 140, 141, 145, 148, 150, 151, 154, 156, 157, 159, 160, 161, 165, 168, 170, 171, 174, 176, 177, 179, 180, 181, 184, 186, 187, 189, 190, 191, 193, 194, 195, 196, 200, 203, 205, 206, 209, 211, 212, 214, 215, 216, 219, 221, 222, 224, 225, 226, 228, 229, 230, 231, 234, 236, 237, 239, 240, 241, 243, 244, 245, 246, 248, 249, 250, 251, 252]
def PRS : List Nat := [0, 0, 0, 0, 0, 0, 1, 1, 1, 1, 1, 2, 2, 2, 2, 3, 3, 3, 4, 4, 5, 6, 6, 6, 6, 6, 7, 7, 7, 7, 8, 8, 8, 9, 9, 10, 11, 11, 11, 11, 12, 12, 12, 13, 13, 14, 15, 15, 15, 16, 16, 17, 18, 18, 19, 20, 21, 21, 21, 21, 21, 22, 22, 22, 22, 23, 23, 23, 24, 24, 25, 26, 26, 26, 26, 27, 27, 27, 28, 28, 29, 30, 30, 30, 31, 31, 32, 33, 33, 34, 35, 36, 36, 36, 36, 37, 37, 37, 38, 38, 39, 40, 40, 40, 41, 41, 42, 43, 43, 44, 45, 46, 46, 46, 47, 47, 48, 49, 49, 50, 51, 52, 52, 53, 54, 55, 56, 56, 56, 56, 56, 57, 57, 57, 57, 58, 58, 58, 59, 59, 60, 61, 61, 61, 61, 62, 62, 62, 63, 63, 64, 65, 65, 65, 66, 66, 67, 68, 68, 69, 70, 71, 71, 71, 71, 72, 72, 72, 73, 73, 74, 75, 75, 75, 76, 76, 77, 78, 78, 79, 80, 81, 81, 81, 82, 82, 83, 84, 84, 85, 86, 87, 87, 88, 89, 90, 91, 91, 91, 91, 92, 92, 92, 93, 93, 94, 95, 95, 95, 96, 96, 97, 98, 98, 99, 100, 101, 101, 101, 102, 102, 103, 104, 104, 105, 106, 107, 107, 108, 109, 110, 111, 111, 111, 112, 112, 113, 114, 114, 115, 116, 117, 117, 118, 119, 120, 121, 121, 122, 123, 124, 125]
def NXS : List (List Nat) := [[1, 6, 7, 8, 9, 10, 21, 22, 23, 24, 25, 26, 27, 28, 29, 30, 31, 32, 33, 34, 35, 56, 57, 58, 59, 60, 61, 62, 63, 64, 65, 66, 67, 68, 69, 70, 71, 72, 73, 74, 75, 76, 77, 78, 79, 80, 81, 82, 83, 84, 85, 86, 87, 88, 89, 90, 126, 127, 128, 129, 130, 131, 132, 133, 134, 135, 136, 137, 138, 139, 140, 141, 142, 143, 144, 145, 146, 147, 148, 149, 150, 151, 152, 153, 154, 155, 156, 157, 158, 159, 160, 161, 162, 163, 164, 165, 166, 167, 168, 169, 170, 171, 172, 173, 174, 175, 176, 177, 178, 179, 180, 181, 182, 183, 184, 185, 186, 187, 188, 189, 190, 191, 192, 193, 194, 195], [2, 7, 11, 12, 13, 14, 22, 26, 27, 28, 29, 36, 37, 38, 39, 40, 41, 42, 43, 44, 45, 57, 61, 62, 63, 64, 71, 72, 73, 74, 75, 76, 77, 78, 79, 80, 91, 92, 93, 94, 95, 96, 97, 98, 99, 100, 101, 102, 103, 104, 105, 106, 107, 108, 109, 110, 127, 131, 132, 133, 134, 141, 142, 143, 144, 145, 146, 147, 148, 149, 150, 161, 162, 163, 164, 165, 166, 167, 168, 169, 170, 171, 172, 173, 174, 175, 176, 177, 178, 179, 180, 196, 197, 198, 199, 200, 201, 202, 203, 204, 205, 206, 207, 208, 209, 210, 211, 212, 213, 214, 215, 216, 217, 218, 219, 220, 221, 222, 223, 224, 225, 226, 227, 228, 229, 230], [3, 8, 12, 15, 16, 17, 23, 27, 30, 31, 32, 37, 40, 41, 42, 46, 47, 48, 49, 50, 51, 58, 62, 65, 66, 67, 72, 75, 76, 77, 81, 82, 83, 84, 85, 86, 92, 95, 96, 97, 101, 102, 103, 104, 105, 106, 111, 112, 113, 114, 115, 116, 117, 118, 119, 120, 128, 132, 135, 136, 137, 142, 145, 146, 147, 151, 152, 153, 154, 155, 156, 162, 165, 166, 167, 171, 172, 173, 174, 175, 176, 181, 182, 183, 184, 185, 186, 187, 188, 189, 190, 197, 200, 201, 202, 206, 207, 208, 209, 210, 211, 216, 217, 218, 219, 220, 221, 222, 223, 224, 225, 231, 232, 233, 234, 235, 236, 237, 238, 239, 240, 241, 242, 243, 244, 245], [4, 9, 13, 16, 18, 19, 24, 28, 31, 33, 34, 38, 41, 43, 44, 47, 49, 50, 52, 53, 54, 59, 63, 66, 68, 69, 73, 76, 78, 79, 82, 84, 85, 87, 88, 89, 93, 96, 98, 99, 102, 104, 105, 107, 108, 109, 112, 114, 115, 117, 118, 119, 121, 122, 123, 124, 129, 133, 136, 138, 139, 143, 146, 148, 149, 152, 154, 155, 157, 158, 159, 163, 166, 168, 169, 172, 174, 175, 177, 178, 179, 182, 184, 185, 187, 188, 189, 191, 192, 193, 194, 198, 201, 203, 204, 207, 209, 210, 212, 213, 214, 217, 219, 220, 222, 223, 224, 226, 227, 228, 229, 232, 234, 235, 237, 238, 239, 241, 242, 243, 244, 246, 247, 248, 249, 250], [5, 10, 14, 17, 19, 20, 25, 29, 32, 34, 35, 39, 42, 44, 45, 48, 50, 51, 53, 54, 55, 60, 64, 67, 69, 70, 74, 77, 79, 80, 83, 85, 86, 88, 89, 90, 94, 97, 99, 100, 103, 105, 106, 108, 109, 110, 113, 115, 116, 118, 119, 120, 122, 123, 124, 125, 130, 134, 137, 139, 140, 144, 147, 149, 150, 153, 155, 156, 158, 159, 160, 164, 167, 169, 170, 173, 175, 176, 178, 179, 180, 183, 185, 186, 188, 189, 190, 192, 193, 194, 195, 199, 202, 204, 205, 208, 210, 211, 213, 214, 215, 218, 220, 221, 223, 224, 225, 227, 228, 229, 230, 233, 235, 236, 238, 239, 240, 242, 243, 244, 245, 247, 248, 249, 250, 251]]
def fc (p : Nat) : Nat := FCS.getD p 0
def pr (p : Nat) : Nat := PRS.getD p 0
def nxl (v p : Nat) : Nat := (NXS.getD v []).getD p 0
def lo (d : Nat) : Nat := [0, 1, 6, 21, 56].getD d 0
/-- the number of a product times one more -/
def nx (v p : Nat) : Nat := qp (pq p + 6 ^ v)
set_option maxRecDepth 100000 in
theorem nx_chk : chk (fun p => chk (fun v => Nat.beq (pq (nxl v p)) (pq p + 6 ^ v) && Nat.blt (nxl v p) 252) 5) 126 = true := by decide +kernel
theorem nx_eq {v p : Nat} (hv : v < 5) (hp : p < 126) : nx v p = nxl v p ∧ nx v p < 252 := by
  have h1 : chk (fun v => Nat.beq (pq (nxl v p)) (pq p + 6 ^ v) && Nat.blt (nxl v p) 252) 5 = true := chk_ok (f := fun p => chk (fun v => Nat.beq (pq (nxl v p)) (pq p + 6 ^ v) && Nat.blt (nxl v p) 252) 5) nx_chk hp
  have h2 : (Nat.beq (pq (nxl v p)) (pq p + 6 ^ v) && Nat.blt (nxl v p) 252) = true := chk_ok (f := fun v => Nat.beq (pq (nxl v p)) (pq p + 6 ^ v) && Nat.blt (nxl v p) 252) h1 hv
  rw [Bool.and_eq_true] at h2
  have h3 := Nat.eq_of_beq_eq_true h2.1
  have h4 : nxl v p < 252 := Nat.le_of_ble_eq_true h2.2
  have e : nx v p = nxl v p := by unfold nx; rw [← h3, qp_pq h4]
  exact ⟨e, by rw [e]; exact h4⟩
set_option maxRecDepth 100000 in
theorem f1_chk : chk (fun p => chk (fun v => Nat.blt v (lv p) || (Nat.beq (nxl v p) (fc p + (v - lv p)) && (Nat.beq (lv (nxl v p)) v && Nat.beq (pr (nxl v p)) p))) 5) 126 = true := by decide +kernel
theorem f1 {v p : Nat} (hv : v < 5) (hp : p < 126) (h : lv p ≤ v) : nx v p = fc p + (v - lv p) ∧ lv (nx v p) = v ∧ pr (nx v p) = p ∧ nx v p < 252 := by
  have h1 : chk (fun v => Nat.blt v (lv p) || (Nat.beq (nxl v p) (fc p + (v - lv p)) && (Nat.beq (lv (nxl v p)) v && Nat.beq (pr (nxl v p)) p))) 5 = true := chk_ok (f := fun p => chk (fun v => Nat.blt v (lv p) || (Nat.beq (nxl v p) (fc p + (v - lv p)) && (Nat.beq (lv (nxl v p)) v && Nat.beq (pr (nxl v p)) p))) 5) f1_chk hp
  have h2 : (Nat.blt v (lv p) || (Nat.beq (nxl v p) (fc p + (v - lv p)) && (Nat.beq (lv (nxl v p)) v && Nat.beq (pr (nxl v p)) p))) = true := chk_ok (f := fun v => Nat.blt v (lv p) || (Nat.beq (nxl v p) (fc p + (v - lv p)) && (Nat.beq (lv (nxl v p)) v && Nat.beq (pr (nxl v p)) p))) h1 hv
  obtain ⟨e, h5⟩ := nx_eq hv hp
  rw [Bool.or_eq_true, Bool.and_eq_true, Bool.and_eq_true] at h2
  rcases h2 with h2 | ⟨h2, h3, h4⟩
  · have : v < lv p := Nat.le_of_ble_eq_true h2
    omega
  · rw [e]
    exact ⟨Nat.eq_of_beq_eq_true h2, Nat.eq_of_beq_eq_true h3, Nat.eq_of_beq_eq_true h4, by rw [← e]; exact h5⟩
set_option maxRecDepth 100000 in
theorem f2_chk : chk (fun d => chk (fun p => chk (fun v => !(Nat.ble (lo d) p && (Nat.blt p (upn d) && Nat.blt v (lv p))) || (Nat.blt (pr p) (lo d) && (Nat.ble (lo d) (nxl v (pr p)) && (Nat.blt (nxl v (pr p)) (upn d) && (Nat.ble (lv (nxl v (pr p))) (lv p) && Nat.beq (nxl (lv p) (nxl v (pr p))) (nxl v p)))))) 5) 126) 5 = true := by decide +kernel
theorem f2 {d v p : Nat} (hd : d < 5) (h1 : lo d ≤ p) (h2 : p < upn d) (hp : p < 126) (hv : v < lv p) (hv5 : v < 5) : pr p < lo d ∧ lo d ≤ nxl v (pr p) ∧ nxl v (pr p) < upn d ∧ lv (nxl v (pr p)) ≤ lv p ∧ nxl (lv p) (nxl v (pr p)) = nxl v p := by
  have g1 := chk_ok (f := fun d => chk (fun p => chk (fun v => !(Nat.ble (lo d) p && (Nat.blt p (upn d) && Nat.blt v (lv p))) || (Nat.blt (pr p) (lo d) && (Nat.ble (lo d) (nxl v (pr p)) && (Nat.blt (nxl v (pr p)) (upn d) && (Nat.ble (lv (nxl v (pr p))) (lv p) && Nat.beq (nxl (lv p) (nxl v (pr p))) (nxl v p)))))) 5) 126) f2_chk hd
  have g2 := chk_ok (f := fun p => chk (fun v => !(Nat.ble (lo d) p && (Nat.blt p (upn d) && Nat.blt v (lv p))) || (Nat.blt (pr p) (lo d) && (Nat.ble (lo d) (nxl v (pr p)) && (Nat.blt (nxl v (pr p)) (upn d) && (Nat.ble (lv (nxl v (pr p))) (lv p) && Nat.beq (nxl (lv p) (nxl v (pr p))) (nxl v p)))))) 5) g1 hp
  have g3 := chk_ok (f := fun v => !(Nat.ble (lo d) p && (Nat.blt p (upn d) && Nat.blt v (lv p))) || (Nat.blt (pr p) (lo d) && (Nat.ble (lo d) (nxl v (pr p)) && (Nat.blt (nxl v (pr p)) (upn d) && (Nat.ble (lv (nxl v (pr p))) (lv p) && Nat.beq (nxl (lv p) (nxl v (pr p))) (nxl v p)))))) g2 hv5
  have e1 : Nat.ble (lo d) p = true := Nat.ble_eq_true_of_le h1
  have e2 : Nat.blt p (upn d) = true := Nat.ble_eq_true_of_le h2
  have e3 : Nat.blt v (lv p) = true := Nat.ble_eq_true_of_le hv
  rw [e1, e2, e3, Bool.and_self, Bool.and_self, Bool.not_true, Bool.false_or] at g3
  simp only [Bool.and_eq_true] at g3
  obtain ⟨a1, a2, a3, a4, a5⟩ := g3
  exact ⟨Nat.le_of_ble_eq_true a1, Nat.le_of_ble_eq_true a2, Nat.le_of_ble_eq_true a3, Nat.le_of_ble_eq_true a4, Nat.eq_of_beq_eq_true a5⟩
set_option maxRecDepth 100000 in
theorem f3_chk : chk (fun p => Nat.beq (fc (p + 1)) (fc p + (5 - lv p)) && (Nat.blt (lv p) 5 && Nat.ble (fc (p + 1)) 252)) 126 = true := by decide +kernel
theorem f3 {p : Nat} (hp : p < 126) : fc (p + 1) = fc p + (5 - lv p) ∧ lv p < 5 ∧ fc (p + 1) ≤ 252 := by
  have h := chk_ok f3_chk hp
  simp only [Bool.and_eq_true] at h
  exact ⟨Nat.eq_of_beq_eq_true h.1, Nat.le_of_ble_eq_true h.2.1, Nat.le_of_ble_eq_true h.2.2⟩
theorem f4 : ∀ d, d < 5 → fc (lo d) = upn d ∧ lo (d + 1) = (if d = 4 then 0 else upn d) ∧ upn d ≤ 126 ∧ lo d ≤ upn d ∧ fc (upn d) = upn (d + 1) := by decide
set_option maxRecDepth 100000 in
theorem f5_chk : chk (fun p => Nat.blt p (fc p)) 126 = true := by decide +kernel
theorem f5 {p : Nat} (hp : p < 126) : p < fc p := Nat.le_of_ble_eq_true (chk_ok (f := fun p => Nat.blt p (fc p)) f5_chk hp)
