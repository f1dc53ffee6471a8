/-! rows: good, and without counters of loops that are not around -/
def vlt (m : Nat) (P : Po) : Prop := ∀ c, vc c → 6 ^ m ≤ c → P c = 0
theorem pw2 : (6 : Nat) ^ 2 = 36 := rfl
theorem pw3 : (6 : Nat) ^ 3 = 216 := rfl
theorem pw4 : (6 : Nat) ^ 4 = 1296 := rfl
theorem pw5 : (6 : Nat) ^ 5 = 7776 := rfl
theorem lowm {m : Nat} (h : m ≤ 5) : m = 0 ∨ m = 1 ∨ m = 2 ∨ m = 3 ∨ m = 4 ∨ m = 5 := by omega
theorem sb_low {m r c : Nat} (hm : m ≤ 5) (hr : r < 6 ^ m) (hc : c < 7776) (hs : sb r c) (h : 6 ^ m ≤ c) : 6 ^ m ≤ c - r := by
  have hr7 : r < 7776 := by
    rcases lowm hm with rfl | rfl | rfl | rfl | rfl | rfl
    · have : (6 : Nat) ^ 0 = 1 := rfl
      omega
    · have : (6 : Nat) ^ 1 = 6 := rfl
      omega
    · rw [pw2] at hr; omega
    · rw [pw3] at hr; omega
    · rw [pw4] at hr; omega
    · rw [pw5] at hr; omega
  obtain ⟨a0, a1, a2, a3, a4, h0, h1, h2, h3, h4, rfl⟩ := dgs hc
  obtain ⟨b0, b1, b2, b3, b4, k0, k1, k2, k3, k4, rfl⟩ := dgs hr7
  obtain ⟨A0, A1, A2, A3, A4⟩ := mk6_dg h0 h1 h2 h3 h4
  obtain ⟨B0, B1, B2, B3, B4⟩ := mk6_dg k0 k1 k2 k3 k4
  rw [sb_iff, A0, A1, A2, A3, A4, B0, B1, B2, B3, B4] at hs
  clear A0 A1 A2 A3 A4 B0 B1 B2 B3 B4
  obtain ⟨l0, l1, l2, l3, l4⟩ := hs
  unfold mk6 at hr h ⊢
  rcases lowm hm with rfl | rfl | rfl | rfl | rfl | rfl
  · have e : (6 : Nat) ^ 0 = 1 := rfl
    rw [e] at hr h ⊢; omega
  · have e : (6 : Nat) ^ 1 = 6 := rfl
    rw [e] at hr h ⊢; omega
  · rw [pw2] at hr h ⊢; omega
  · rw [pw3] at hr h ⊢; omega
  · rw [pw4] at hr h ⊢; omega
  · rw [pw5] at h; omega
theorem vlt_0 (m) : vlt m (fun _ => 0) := fun _ _ _ => rfl
theorem vlt_mono {m m' P} (h : vlt m P) (hm : m ≤ m') : vlt m' P := fun c hc h6 => h c hc (Nat.le_trans (Nat.pow_le_pow_right (by decide) hm) h6)
theorem vlt_Sh {m r P} (hm : m ≤ 5) (hr : r < 6 ^ m) (hr7 : r < 7776) (h : vlt m P) : vlt m (Sh r P) := by
  intro c hc h6
  unfold Sh
  by_cases hs : sb r c
  · rw [if_pos hs]; exact h _ (vc_sub hr7 hc hs) (sb_low hm hr hc.1 hs h6)
  · rw [if_neg hs]
theorem vlt_lc {m n b} {Q : Nat → Po} (h : ∀ i, i < n → vlt m (Q i)) : vlt m (lc n b Q) := fun c hc h6 => sm_zero (fun i hi => by
  show b i * Q i c = 0
  rw [h i hi c hc h6, Int64.mul_zero])
theorem sv_low {v d : Nat} (h : v < 3 + d) (hd : d ≤ 3) : sv v < 6 ^ (2 + d) := by
  cases v with
  | zero => exact Nat.pow_pos (by decide)
  | succ v => exact Nat.pow_lt_pow_right (by decide) (by omega)
theorem vlt_mulE {e d P} (hd : d ≤ 3) (h : vlt (2 + d) P) : vlt (2 + d) (mulE e d P) := vlt_lc (fun v hv => vlt_Sh (by omega) (sv_low hv hd) (sv_lt (by omega)) h)
theorem vlt_pwE {e d P} (hd : d ≤ 3) (h : vlt (2 + d) P) : ∀ j, vlt (2 + d) (pwE e d j P)
  | 0 => h
  | j + 1 => vlt_mulE hd (vlt_pwE hd h j)
theorem vlt_del (m) : vlt m (del 0) := by
  intro c hc h6
  unfold del
  rw [if_neg]
  intro h
  have : 0 < 6 ^ m := Nat.pow_pos (by decide)
  omega
theorem vlt_put {W e1 e2 d} (hd : d ≤ 3) : vlt (2 + d) (putP W e1 e2 d) := vlt_lc (fun x _ => vlt_pwE hd (vlt_pwE hd (vlt_del _) _) _)
theorem vlt_ad0 {m P} (h : vlt m P) : vlt m (ad0 P) := by
  intro c hc h6
  unfold ad0
  have : 0 < 6 ^ m := Nat.pow_pos (by decide)
  rw [if_neg (by omega)]
  exact h c hc h6
theorem vlt_cst (m w) : vlt m (cst w) := by
  intro c hc h6
  unfold cst
  have : 0 < 6 ^ m := Nat.pow_pos (by decide)
  rw [if_neg (by omega)]
theorem vlt_pad {m T S} (h : vlt m T) (h' : vlt m S) : vlt m (pad T S) := fun c hc h6 => by
  show T c + S c = 0
  rw [h c hc h6, h' c hc h6]; rfl
theorem vlt_mmx {m sd A B} (h : vlt m A) (h' : vlt m B) : vlt m (fun c => mmx sd (A c) (B c)) := fun c hc h6 => by
  show mmx sd (A c) (B c) = 0
  rw [h c hc h6, h' c hc h6]
  unfold mmx
  split <;> rfl
theorem rst_low {c v : Nat} (hv : v ≤ 4) (h : c < 6 ^ (v + 1)) : rst c v < 6 ^ v := by
  have e : c / 6 ^ v % 6 = c / 6 ^ v := Nat.mod_eq_of_lt (by rw [Nat.div_lt_iff_lt_mul (Nat.pow_pos (by decide))]; rw [Nat.pow_succ, Nat.mul_comm] at h; exact h)
  show c - c / 6 ^ v % 6 * 6 ^ v < 6 ^ v
  rw [e]
  have h1 : c = 6 ^ v * (c / 6 ^ v) + c % 6 ^ v := (Nat.div_add_mod c (6 ^ v)).symm
  have h2 : c % 6 ^ v < 6 ^ v := Nat.mod_lt _ (Nat.pow_pos (by decide))
  rw [Nat.mul_comm] at h1
  omega
theorem vlt_sumS {P t d} (hd : d ≤ 2) (h : vlt (3 + d) P) : vlt (2 + d) (sumS P t d) := by
  intro c hc h6
  refine sm_zero (fun x hx => sm_zero (fun j hj => ?_))
  by_cases hx6 : 6 ^ (3 + d) ≤ cd x
  · rw [h (cd x) (rk_cd hx).1 hx6, Int64.zero_mul, Int64.zero_mul]
  · have hr : rst (cd x) (2 + d) < 6 ^ (2 + d) := rst_low (by omega) (by rw [show 2 + d + 1 = 3 + d by omega]; omega)
    have hv := (rst_ok (rk_cd hx).1 (by omega : 2 + d < 5)).2.1
    rw [vlt_Sh (by omega) hr hv.1 (vlt_pwE (by omega) (vlt_del _) _) c hc h6, Int64.mul_zero]
theorem vlt_sumF {P t d} (hd : d ≤ 2) (h : vlt (3 + d) P) : vlt (2 + d) (sumF P t d) := by
  intro c hc h6
  refine sm_zero (fun x hx => ?_)
  unfold fxS
  by_cases hx6 : 6 ^ (3 + d) ≤ cd x
  · split
    · exact sm_zero (fun i _ => by rw [h (cd x) (rk_cd hx).1 hx6, Int64.zero_mul])
    · rfl
  · have hr : rst (cd x) (2 + d) < 6 ^ (2 + d) := rst_low (by omega) (by rw [show 2 + d + 1 = 3 + d by omega]; omega)
    rw [if_neg (by omega)]
theorem vlt_sumR {P t d} (hd : d ≤ 2) (h : vlt (3 + d) P) : vlt (2 + d) (sumR P t d) := by
  unfold sumR
  cases aln t (2 + d)
  · intro c hc h6
    show sumS P t d c / 60 = 0
    rw [vlt_sumS hd h c hc h6]; rfl
  · exact vlt_sumF hd h
/-- how many loops are around each row -/
def dps : List (Nat × Nat) → List Nat
  | [] => [0]
  | q :: T => if q.2 = 2 then lps T :: lps T :: dps T else lps (q :: T) :: dps T
def RV : List Nat → List Po → Prop
  | [], [] => True
  | d :: D, P :: R => vlt (2 + d) P ∧ gdn P 252 = true ∧ RV D R
  | _, _ => False
theorem gdn_0 : gdn (fun _ => 0) 252 = true := by
  have h : ∀ k, gdn (fun _ => 0) k = true := by
    intro k
    induction k with
    | zero => rfl
    | succ k ih => show (gdn _ k && inr 0) = true; rw [ih]; rfl
  exact h 252
theorem jn_RV {T S : Po} {R R' : List Po} {d D} (h : jn T S R = some R') (hS : vlt (2 + d) S) (hR : RV (d :: D) (T :: R)) : RV (d :: D) R' := by
  unfold jn at h
  cases hb : (gdn S 252 && gdn (pad T S) 252) <;> rw [hb] at h
  · cases h
  · cases h
    rw [Bool.and_eq_true] at hb
    exact ⟨vlt_pad hR.1 hS, hb.2, hR.2.2⟩
theorem dps_hd (S) : ∃ D, dps S = lps S :: D := by
  cases S with
  | nil => exact ⟨[], rfl⟩
  | cons q T =>
    unfold dps
    by_cases h : q.2 = 2
    · rw [if_pos h]
      refine ⟨lps T :: dps T, ?_⟩
      have e : lps (q :: T) = (if q.2 = 0 then 1 else 0) + lps T := rfl
      rw [e, if_neg (by omega), Nat.zero_add]
    · rw [if_neg h]; exact ⟨_, rfl⟩
theorem sfp_RV {sd k w l t u W p S R R'} (hk : okc k S) (hl : l = lps S) (hl3 : lps S ≤ 3) (hR : RV (dps S) R) (h : sfp sd k w t u W l R = some R') : RV (dps (stq k p S)) R' := by
  obtain ⟨D, hD⟩ := dps_hd S
  cases R with
  | nil => cases h
  | cons T R =>
    rw [sfp_c] at h
    subst hl
    rcases hk with rfl | ⟨rfl, -⟩ | rfl | rfl | ⟨rfl, q, T', rfl⟩ | ⟨rfl, q, T', rfl⟩ | ⟨rfl, q, T', rfl⟩
    · rw [if_pos rfl] at h
      rw [stq_1, hD]; rw [hD] at hR
      exact jn_RV h (vlt_cst _ _) hR
    · simp only [Nat.reduceEqDiff, if_false] at h; cases h; rw [stq_3]
      exact ⟨vlt_0 _, gdn_0, hR⟩
    · simp only [Nat.reduceEqDiff, if_false, if_true] at h
      cases W with
      | none => cases h
      | some V =>
        rw [stq_4, hD]; rw [hD] at hR
        exact jn_RV h (vlt_ad0 (vlt_put hl3)) hR
    · simp only [Nat.reduceEqDiff, if_false] at h; cases h; rw [stq_5]
      exact ⟨vlt_0 _, gdn_0, hR⟩
    · simp only [Nat.reduceEqDiff, if_false, if_true] at h
      have e : dps ((q, 0) :: T') = lps ((q, 0) :: T') :: dps T' := rfl
      have e2 : lps ((q, 0) :: T') = 1 + lps T' := rfl
      rw [e, e2] at hR
      rw [e2, Nat.add_sub_cancel_left] at h
      rw [e2] at hl3
      obtain ⟨D2, hD2⟩ := dps_hd T'
      rw [stq_6, List.tail_cons]
      rw [hD2] at hR ⊢
      cases R with
      | nil => cases h
      | cons A R2 =>
        cases hb : sumOk (ad0 T) u (lps T') <;> simp only [hb, cnd_f, cnd_t] at h
        · cases h
        · refine jn_RV h (vlt_sumR (by omega) ?_) hR.2.2
          rw [show 3 + lps T' = 2 + (1 + lps T') by omega]
          exact vlt_ad0 hR.1
    · simp only [Nat.reduceEqDiff, if_false] at h; cases h; rw [stq_7]
      have e : dps ((q, 1) :: T') = lps T' :: dps T' := by
        show lps ((q, 1) :: T') :: dps T' = _
        rw [show lps ((q, 1) :: T') = lps T' from Nat.zero_add _]
      rw [e] at hR
      exact ⟨vlt_0 _, gdn_0, hR⟩
    · simp only [Nat.reduceEqDiff, if_false, if_true] at h
      have e : dps ((q, 2) :: T') = lps T' :: lps T' :: dps T' := rfl
      rw [e] at hR
      obtain ⟨D2, hD2⟩ := dps_hd T'
      rw [stq_8, List.tail_cons]
      rw [hD2] at hR ⊢
      cases R with
      | nil => cases h
      | cons A R2 =>
        cases R2 with
        | nil => cases h
        | cons B R3 => exact jn_RV h (vlt_ad0 (vlt_mmx hR.2.2.1 hR.1)) hR.2.2.2.2
theorem rws_RV {Q F sd r} (hW : WF (qk Q r) (qn Q r)) : ∀ {p : Nat} {R : List Po}, p ≤ qn Q r → rws Q F sd r p = some R → RV (dps (stk (qk Q r) p)) R
  | 0, R, _, h => by cases h; exact ⟨vlt_0 _, gdn_0, trivial⟩
  | p + 1, R, hp, h => by
    obtain ⟨R0, h1, h2⟩ := Option.bind_eq_some_iff.mp h
    exact sfp_RV (p := p) (hW p (by omega)) rfl (lps_3 (WF_le hW (by omega))) (rws_RV hW (by omega) h1) h2
/-- a formula is good, and has x0 and x1 alone -/
theorem fml_ok {Q sd r P} (hW : WP Q) (hr : r < 8) (hw : whl Q r = true) (h : fml Q sd r = some P) : vlt 2 P ∧ gdn P 252 = true := by
  rw [fml_eq hW hr] at h
  cases hr2 : rws Q (fml Q sd) sd r (qn Q r) with
  | none => rw [hr2] at h; cases h
  | some R =>
    rw [hr2] at h
    cases h
    have hv := rws_RV (hW.2.2.2.1 r) (Nat.le_refl _) hr2
    rw [whl_nil hW hr hw] at hv
    cases R with
    | nil => exact absurd hv (fun h => h)
    | cons P R => exact ⟨hv.1, hv.2.1⟩
theorem gdn_at {P : Po} : ∀ {n k : Nat}, gdn P n = true → k < n → inr (P (cd k)) = true
  | 0, k, _, hk => by omega
  | n + 1, k, h, hk => by
    unfold gdn at h
    rw [Bool.and_eq_true] at h
    by_cases e : k = n
    · rw [e]; exact h.2
    · exact gdn_at h.1 (by omega)
theorem gdn_of {P : Po} : ∀ {n : Nat}, (∀ k, k < n → inr (P (cd k)) = true) → gdn P n = true
  | 0, _ => rfl
  | n + 1, h => by
    unfold gdn
    rw [gdn_of (fun k hk => h k (by omega)), h n (by omega)]; rfl
