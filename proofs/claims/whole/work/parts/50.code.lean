/-! codes of products: five digits to the base 6; the rows of the model in their order -/
def degc (c : Nat) : Nat := c % 6 + c / 6 % 6 + c / 36 % 6 + c / 216 % 6 + c / 1296 % 6
/-- a code that has a row -/
abbrev vc (c : Nat) : Prop := c < 7776 ∧ degc c < 6
def rk : Nat → Nat
  | 0 => 0
  | c + 1 => rk c + (if degc c < 6 then 1 else 0)
def CDS : List Nat := [0, 1, 2, 3, 4, 5, 6, 7, 8, 9, 10, 12, 13, 14, 15, 18, 19, 20, 24, 25, 30, 36, 37, 38, 39, 40, 42, 43, 44, 45, 48, 49, 50, 54, 55, 60, 72, 73, 74, 75, 78, 79, 80, 84, 85, 90, 108, 109, 110, 114, 115, 120, 144, 145, 150, 180, 216, 217, 218, 219, 220, 222, 223, 224, 225, 228, 229, 230, 234, 235, 240, 252, 253, 254, 255, 258, 259, 260, 264, 265, 270, 288, 289, 290, 294, 295, 300, 324, 325, 330, 360, 432, 433, 434, 435, 438, 439, 440, 444, 445, 450, 468, 469, 470, 474, 475, 480, 504, 505, 510, 540, 648, 649, 650, 654, 655, 660, 684, 685, 690, 720, 864, 865, 870, 900, 1080, 1296, 1297, 1298, 1299, 1300, 1302, 1303, 1304, 1305, 1308, 1309, 1310, 1314, 1315, 1320, 1332, 1333, 1334, 1335, 1338, 1339, 1340, 1344, 1345, 1350, 1368, 1369, 1370, 1374, 1375, 1380, 1404, 1405, 1410, 1440, 1512, 1513, 1514, 1515, 1518, 1519, 1520, 1524, 1525, 1530, 1548, 1549, 1550, 1554, 1555, 1560, 1584, 1585, 1590, 1620, 1728, 1729, 1730, 1734, 1735, 1740, 1764, 1765, 1770, 1800, 1944, 1945, 1950, 1980, 2160, 2592, 2593, 2594, 2595, 2598, 2599, 2600, 2604, 2605, 2610, 2628, 2629, 2630, 2634, 2635, 2640, 2664, 2665, 2670, 2700, 2808, 2809, 2810, 2814, 2815, 2820, 2844, 2845, 2850, 2880, 3024, 3025, 3030, 3060, 3240, 3888, 3889, 3890, 3894, 3895, 3900, 3924, 3925, 3930, 3960, 4104, 4105, 4110, 4140, 4320, 5184, 5185, 5190, 5220, 5400, 6480]
def cd (k : Nat) : Nat := CDS.getD k 0
/-- digit by digit no greater -/
def sbb (r c : Nat) : Bool := decide (r % 6 ≤ c % 6 ∧ r / 6 % 6 ≤ c / 6 % 6 ∧ r / 36 % 6 ≤ c / 36 % 6 ∧ r / 216 % 6 ≤ c / 216 % 6 ∧ r / 1296 % 6 ≤ c / 1296 % 6)
abbrev sb (r c : Nat) : Prop := sbb r c = true
theorem sb_iff {r c : Nat} : sb r c ↔ r % 6 ≤ c % 6 ∧ r / 6 % 6 ≤ c / 6 % 6 ∧ r / 36 % 6 ≤ c / 36 % 6 ∧ r / 216 % 6 ≤ c / 216 % 6 ∧ r / 1296 % 6 ≤ c / 1296 % 6 := decide_eq_true_iff
def scn : Nat → List Nat → Bool
  | 0, L => L.isEmpty
  | n + 1, L => if degc (7775 - n) < 6 then (match L with | [] => false | x :: T => Nat.beq x (7775 - n) && scn n T) else scn n L
theorem scn_ok : ∀ {n : Nat} {L : List Nat}, n ≤ 7776 → scn n L = true → (∀ i, i < L.length → 7776 - n ≤ L.getD i 0 ∧ L.getD i 0 < 7776 ∧ degc (L.getD i 0) < 6 ∧ rk (L.getD i 0) = rk (7776 - n) + i) ∧ (∀ x, 7776 - n ≤ x → x < 7776 → degc x < 6 → ∃ i, i < L.length ∧ L.getD i 0 = x ∧ rk x = rk (7776 - n) + i)
  | 0, L, hn, h => by
    have h' : L.isEmpty = true := h
    cases L with
    | nil => exact ⟨fun i hi => absurd hi (Nat.not_lt_zero _), fun x h1 h2 => by omega⟩
    | cons a T => cases h'
  | n + 1, L, hn, h => by
    unfold scn at h
    obtain ⟨c, hc⟩ : ∃ c, c = 7775 - n := ⟨_, rfl⟩
    rw [← hc] at h
    have e1 : 7776 - (n + 1) = c := by omega
    have e2 : 7776 - n = c + 1 := by omega
    rw [e1]
    by_cases hd : degc c < 6
    · rw [if_pos hd] at h
      cases L with
      | nil => cases h
      | cons a T =>
        have h2 : (Nat.beq a c && scn n T) = true := h
        rw [Bool.and_eq_true] at h2
        have ha : a = c := Nat.eq_of_beq_eq_true h2.1
        obtain ⟨i1, i2⟩ := scn_ok (by omega) h2.2
        rw [e2] at i1 i2
        have hr : rk (c + 1) = rk c + 1 := by rw [rk, if_pos hd]
        refine ⟨fun i hi => ?_, fun x h1 h3 h4 => ?_⟩
        · cases i with
          | zero =>
            have e : (a :: T).getD 0 0 = c := ha
            rw [e]
            exact ⟨Nat.le_refl _, by omega, hd, rfl⟩
          | succ i =>
            have hi' : i < T.length := Nat.lt_of_succ_lt_succ hi
            obtain ⟨j1, j2, j3, j4⟩ := i1 i hi'
            have e : (a :: T).getD (i + 1) 0 = T.getD i 0 := rfl
            rw [e]
            refine ⟨by omega, j2, j3, ?_⟩
            rw [j4, hr]; omega
        · by_cases e : x = c
          · exact ⟨0, Nat.zero_lt_succ _, ha.trans e.symm, by rw [e]; rfl⟩
          · obtain ⟨i, j1, j2, j3⟩ := i2 x (by omega) h3 h4
            exact ⟨i + 1, Nat.succ_lt_succ j1, j2, by rw [j3, hr]; omega⟩
    · rw [if_neg hd] at h
      obtain ⟨i1, i2⟩ := scn_ok (by omega) h
      rw [e2] at i1 i2
      have hr : rk (c + 1) = rk c := by rw [rk, if_neg hd]; rfl
      rw [hr] at i1 i2
      refine ⟨fun i hi => ?_, fun x h1 h3 h4 => ?_⟩
      · obtain ⟨j1, j2, j3, j4⟩ := i1 i hi
        exact ⟨by omega, j2, j3, j4⟩
      · have hx : x ≠ c := fun e => hd (by rw [← e]; exact h4)
        exact i2 x (by omega) h3 h4
set_option maxRecDepth 100000 in
theorem scn_CDS : scn 7776 CDS = true := by decide +kernel
theorem CDS_len : CDS.length = 252 := by decide +kernel
theorem rk_cd {k : Nat} (h : k < 252) : vc (cd k) ∧ rk (cd k) = k := by
  obtain ⟨h1, h2, h3, h4⟩ := (scn_ok (Nat.le_refl _) scn_CDS).1 k (by rw [CDS_len]; exact h)
  rw [Nat.sub_self, rk, Nat.zero_add] at h4
  exact ⟨⟨h2, h3⟩, h4⟩
theorem cd_rk {c : Nat} (h : vc c) : cd (rk c) = c ∧ rk c < 252 := by
  obtain ⟨i, h1, h2, h3⟩ := (scn_ok (Nat.le_refl _) scn_CDS).2 c (by rw [Nat.sub_self]; exact Nat.zero_le _) h.1 h.2
  rw [Nat.sub_self, rk, Nat.zero_add] at h3
  rw [CDS_len] at h1
  rw [h3]
  exact ⟨h2, h1⟩
/-! digits -/
theorem q6 {a b : Nat} (h : a < 6) : (a + 6 * b) % 6 = a ∧ (a + 6 * b) / 6 = b := by omega
theorem dv36 (c : Nat) : c / 36 = c / 6 / 6 := (Nat.div_div_eq_div_mul c 6 6).symm
theorem dv216 (c : Nat) : c / 216 = c / 6 / 6 / 6 := by rw [Nat.div_div_eq_div_mul, Nat.div_div_eq_div_mul]
theorem dv1296 (c : Nat) : c / 1296 = c / 6 / 6 / 6 / 6 := by rw [Nat.div_div_eq_div_mul, Nat.div_div_eq_div_mul, Nat.div_div_eq_div_mul]
/-- a code by its digits -/
def mk6 (a0 a1 a2 a3 a4 : Nat) : Nat := a0 + 6 * (a1 + 6 * (a2 + 6 * (a3 + 6 * a4)))
theorem mk6_dg {a0 a1 a2 a3 a4 : Nat} (h0 : a0 < 6) (h1 : a1 < 6) (h2 : a2 < 6) (h3 : a3 < 6) (h4 : a4 < 6) : mk6 a0 a1 a2 a3 a4 % 6 = a0 ∧ mk6 a0 a1 a2 a3 a4 / 6 % 6 = a1 ∧ mk6 a0 a1 a2 a3 a4 / 36 % 6 = a2 ∧ mk6 a0 a1 a2 a3 a4 / 216 % 6 = a3 ∧ mk6 a0 a1 a2 a3 a4 / 1296 % 6 = a4 := by
  unfold mk6
  rw [dv36, dv216, dv1296, (q6 h0).1, (q6 h0).2, (q6 h1).1, (q6 h1).2, (q6 h2).1, (q6 h2).2, (q6 h3).1, (q6 h3).2, Nat.mod_eq_of_lt h4]
  exact ⟨rfl, rfl, rfl, rfl, rfl⟩
theorem dgs {c : Nat} (h : c < 7776) : ∃ a0 a1 a2 a3 a4 : Nat, a0 < 6 ∧ a1 < 6 ∧ a2 < 6 ∧ a3 < 6 ∧ a4 < 6 ∧ c = mk6 a0 a1 a2 a3 a4 := by
  refine ⟨c % 6, c / 6 % 6, c / 6 / 6 % 6, c / 6 / 6 / 6 % 6, c / 6 / 6 / 6 / 6, Nat.mod_lt _ (by decide), Nat.mod_lt _ (by decide), Nat.mod_lt _ (by decide), Nat.mod_lt _ (by decide), ?_, ?_⟩
  · rw [← dv1296]; omega
  · unfold mk6
    rw [Nat.mod_add_div, Nat.mod_add_div, Nat.mod_add_div, Nat.mod_add_div]
theorem mk6_lt {a0 a1 a2 a3 a4 : Nat} (h0 : a0 < 6) (h1 : a1 < 6) (h2 : a2 < 6) (h3 : a3 < 6) (h4 : a4 < 6) : mk6 a0 a1 a2 a3 a4 < 7776 := by
  unfold mk6; omega
/-- digits of what is left -/
theorem sbq_dg {r c : Nat} (hr : r < 7776) (hc : c < 7776) (h : sb r c) : r ≤ c ∧ (c - r) % 6 = c % 6 - r % 6 ∧ (c - r) / 6 % 6 = c / 6 % 6 - r / 6 % 6 ∧ (c - r) / 36 % 6 = c / 36 % 6 - r / 36 % 6 ∧ (c - r) / 216 % 6 = c / 216 % 6 - r / 216 % 6 ∧ (c - r) / 1296 % 6 = c / 1296 % 6 - r / 1296 % 6 := by
  obtain ⟨a0, a1, a2, a3, a4, h0, h1, h2, h3, h4, rfl⟩ := dgs hc
  obtain ⟨b0, b1, b2, b3, b4, k0, k1, k2, k3, k4, rfl⟩ := dgs hr
  obtain ⟨A0, A1, A2, A3, A4⟩ := mk6_dg h0 h1 h2 h3 h4
  obtain ⟨B0, B1, B2, B3, B4⟩ := mk6_dg k0 k1 k2 k3 k4
  rw [sb_iff] at h
  rw [A0, A1, A2, A3, A4, B0, B1, B2, B3, B4] at h
  rw [A0, A1, A2, A3, A4, B0, B1, B2, B3, B4]
  clear A0 A1 A2 A3 A4 B0 B1 B2 B3 B4
  obtain ⟨l0, l1, l2, l3, l4⟩ := h
  have e : mk6 a0 a1 a2 a3 a4 - mk6 b0 b1 b2 b3 b4 = mk6 (a0 - b0) (a1 - b1) (a2 - b2) (a3 - b3) (a4 - b4) := by
    unfold mk6; omega
  have hle : mk6 b0 b1 b2 b3 b4 ≤ mk6 a0 a1 a2 a3 a4 := by
    unfold mk6; omega
  rw [e]
  exact ⟨hle, mk6_dg (Nat.lt_of_le_of_lt (Nat.sub_le _ _) h0) (Nat.lt_of_le_of_lt (Nat.sub_le _ _) h1) (Nat.lt_of_le_of_lt (Nat.sub_le _ _) h2) (Nat.lt_of_le_of_lt (Nat.sub_le _ _) h3) (Nat.lt_of_le_of_lt (Nat.sub_le _ _) h4)⟩
theorem sb_h {a b c : Nat} (h1 : b ≤ c) (h2 : a ≤ c - b) : a ≤ c ∧ b ≤ c - a := by omega
theorem sb_comm1 {r u c : Nat} (hr : r < 7776) (hu : u < 7776) (hc : c < 7776) (h1 : sb r c) (h2 : sb u (c - r)) : sb u c ∧ sb r (c - u) := by
  obtain ⟨-, e0, e1, e2, e3, e4⟩ := sbq_dg hr hc h1
  rw [sb_iff] at h1 h2
  rw [e0, e1, e2, e3, e4] at h2
  have h3 : sb u c := sb_iff.mpr ⟨(sb_h h1.1 h2.1).1, (sb_h h1.2.1 h2.2.1).1, (sb_h h1.2.2.1 h2.2.2.1).1, (sb_h h1.2.2.2.1 h2.2.2.2.1).1, (sb_h h1.2.2.2.2 h2.2.2.2.2).1⟩
  obtain ⟨-, f0, f1, f2, f3, f4⟩ := sbq_dg hu hc h3
  refine ⟨h3, ?_⟩
  rw [sb_iff, f0, f1, f2, f3, f4]
  exact ⟨(sb_h h1.1 h2.1).2, (sb_h h1.2.1 h2.2.1).2, (sb_h h1.2.2.1 h2.2.2.1).2, (sb_h h1.2.2.2.1 h2.2.2.2.1).2, (sb_h h1.2.2.2.2 h2.2.2.2.2).2⟩
theorem sb_comm {r u c : Nat} (hr : r < 7776) (hu : u < 7776) (hc : c < 7776) : (sb r c ∧ sb u (c - r)) ↔ (sb u c ∧ sb r (c - u)) := ⟨fun h => sb_comm1 hr hu hc h.1 h.2, fun h => sb_comm1 hu hr hc h.1 h.2⟩
theorem deg_h {c0 c1 c2 c3 c4 r0 r1 r2 r3 r4 : Nat} (h0 : r0 ≤ c0) (h1 : r1 ≤ c1) (h2 : r2 ≤ c2) (h3 : r3 ≤ c3) (h4 : r4 ≤ c4) : (c0 - r0) + (c1 - r1) + (c2 - r2) + (c3 - r3) + (c4 - r4) + (r0 + r1 + r2 + r3 + r4) = c0 + c1 + c2 + c3 + c4 := by omega
theorem degc_sub {r c : Nat} (hr : r < 7776) (hc : c < 7776) (h : sb r c) : degc (c - r) + degc r = degc c := by
  obtain ⟨-, e0, e1, e2, e3, e4⟩ := sbq_dg hr hc h
  obtain ⟨l0, l1, l2, l3, l4⟩ := sb_iff.mp h
  show (c - r) % 6 + (c - r) / 6 % 6 + (c - r) / 36 % 6 + (c - r) / 216 % 6 + (c - r) / 1296 % 6 + _ = _
  rw [e0, e1, e2, e3, e4]
  exact deg_h l0 l1 l2 l3 l4
theorem vc_sub {r c : Nat} (hr : r < 7776) (hc : vc c) (h : sb r c) : vc (c - r) := by
  have h1 := degc_sub hr hc.1 h
  exact ⟨Nat.lt_of_le_of_lt (Nat.sub_le _ _) hc.1, Nat.lt_of_le_of_lt (by rw [← h1]; exact Nat.le_add_right _ _) hc.2⟩
/-- sums of codes of few powers -/
theorem sb_add {r e : Nat} (hr : r < 7776) (he : e < 7776) (hd : degc r + degc e < 6) : vc (r + e) ∧ sb r (r + e) ∧ degc (r + e) = degc r + degc e := by
  obtain ⟨a0, a1, a2, a3, a4, h0, h1, h2, h3, h4, rfl⟩ := dgs he
  obtain ⟨b0, b1, b2, b3, b4, k0, k1, k2, k3, k4, rfl⟩ := dgs hr
  obtain ⟨A0, A1, A2, A3, A4⟩ := mk6_dg h0 h1 h2 h3 h4
  obtain ⟨B0, B1, B2, B3, B4⟩ := mk6_dg k0 k1 k2 k3 k4
  have dA : degc (mk6 a0 a1 a2 a3 a4) = a0 + a1 + a2 + a3 + a4 := by
    show _ % 6 + _ / 6 % 6 + _ / 36 % 6 + _ / 216 % 6 + _ / 1296 % 6 = _
    rw [A0, A1, A2, A3, A4]
  have dB : degc (mk6 b0 b1 b2 b3 b4) = b0 + b1 + b2 + b3 + b4 := by
    show _ % 6 + _ / 6 % 6 + _ / 36 % 6 + _ / 216 % 6 + _ / 1296 % 6 = _
    rw [B0, B1, B2, B3, B4]
  rw [dA, dB] at hd
  rw [dA, dB]
  have e : mk6 b0 b1 b2 b3 b4 + mk6 a0 a1 a2 a3 a4 = mk6 (b0 + a0) (b1 + a1) (b2 + a2) (b3 + a3) (b4 + a4) := by
    clear A0 A1 A2 A3 A4 B0 B1 B2 B3 B4 dA dB
    unfold mk6; omega
  have z0 : b0 + a0 < 6 := by clear A0 A1 A2 A3 A4 B0 B1 B2 B3 B4 dA dB e; omega
  have z1 : b1 + a1 < 6 := by clear A0 A1 A2 A3 A4 B0 B1 B2 B3 B4 dA dB e; omega
  have z2 : b2 + a2 < 6 := by clear A0 A1 A2 A3 A4 B0 B1 B2 B3 B4 dA dB e; omega
  have z3 : b3 + a3 < 6 := by clear A0 A1 A2 A3 A4 B0 B1 B2 B3 B4 dA dB e; omega
  have z4 : b4 + a4 < 6 := by clear A0 A1 A2 A3 A4 B0 B1 B2 B3 B4 dA dB e; omega
  obtain ⟨C0, C1, C2, C3, C4⟩ := mk6_dg z0 z1 z2 z3 z4
  have dC : degc (mk6 (b0 + a0) (b1 + a1) (b2 + a2) (b3 + a3) (b4 + a4)) = (b0 + a0) + (b1 + a1) + (b2 + a2) + (b3 + a3) + (b4 + a4) := by
    show _ % 6 + _ / 6 % 6 + _ / 36 % 6 + _ / 216 % 6 + _ / 1296 % 6 = _
    rw [C0, C1, C2, C3, C4]
  rw [e]
  have s : (b0 + a0) + (b1 + a1) + (b2 + a2) + (b3 + a3) + (b4 + a4) = (b0 + b1 + b2 + b3 + b4) + (a0 + a1 + a2 + a3 + a4) := by
    clear A0 A1 A2 A3 A4 B0 B1 B2 B3 B4 dA dB e C0 C1 C2 C3 C4 dC
    omega
  refine ⟨⟨mk6_lt z0 z1 z2 z3 z4, by rw [dC, s]; exact hd⟩, ?_, by rw [dC, s]⟩
  rw [sb_iff, B0, B1, B2, B3, B4, C0, C1, C2, C3, C4]
  exact ⟨Nat.le_add_right _ _, Nat.le_add_right _ _, Nat.le_add_right _ _, Nat.le_add_right _ _, Nat.le_add_right _ _⟩
