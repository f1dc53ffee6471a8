/-! sums over a counter: rows of the model against chains of the class -/
theorem sm_head (f : Nat → Int64) : ∀ n : Nat, sm (n + 1) f = f 0 + sm n (fun v => f (v + 1))
  | 0 => by show 0 + f 0 = f 0 + 0; rw [Int64.zero_add, Int64.add_zero]
  | n + 1 => by show sm (n + 1) f + f (n + 1) = f 0 + (sm n (fun v => f (v + 1)) + f (n + 1)); rw [sm_head f n, Int64.add_assoc]
theorem sm_tail {f : Nat → Int64} {k : Nat} : ∀ {n : Nat}, k ≤ n → (∀ i, k ≤ i → i < n → f i = 0) → sm n f = sm k f
  | 0, h, _ => by have e : k = 0 := by omega
                  rw [e]
  | n + 1, h, hz => by
    by_cases e : k = n + 1
    · rw [e]
    · show sm n f + f n = sm k f
      rw [hz n (by omega) (by omega), Int64.add_zero]
      exact sm_tail (by omega) (fun i h1 h2 => hz i h1 (by omega))
theorem rst_eq {c v : Nat} (hc : vc c) (hv : v < 5) : c = rst c v + dgv c v * 6 ^ v := by
  have h := (rst_ok hc hv).1
  show c = c - dgv c v * 6 ^ v + dgv c v * 6 ^ v
  omega
theorem fib {v c : Nat} {F : Nat → Int64} (hv : v ≤ 4) (hc : vc c) (hF : ∀ x, vc x → 6 ^ (v + 1) ≤ x → F x = 0) : sm 252 (fun x => if c = rst (cd x) v then F (cd x) else 0) = if c < 6 ^ v then sm 6 (fun k => if degc c + k < 6 then F (c + k * 6 ^ v) else 0) else 0 := by
  by_cases hlt : c < 6 ^ v
  · rw [if_pos hlt]
    have e1 : ∀ x, x < 252 → (if c = rst (cd x) v then F (cd x) else 0) = sm 6 (fun k => if cd x = c + k * 6 ^ v then F (cd x) else 0) := by
      intro x hx
      have hxv := (rk_cd hx).1
      by_cases hr : c = rst (cd x) v
      · rw [if_pos hr]
        have hk : dgv (cd x) v < 6 := Nat.mod_lt _ (by decide)
        have he : cd x = c + dgv (cd x) v * 6 ^ v := by rw [hr]; exact rst_eq hxv (by omega)
        rw [sm_one hk (fun i hi hne => ?_)]
        · rw [if_pos he]
        · rw [if_neg]
          intro h2
          have h3 := (dg_low hv hlt hi hc.1).2.2.1
          rw [← h2] at h3
          exact hne h3.symm
      · rw [if_neg hr]
        refine (sm_zero (fun k hk => ?_)).symm
        rw [if_neg]
        intro h2
        have h3 := (dg_low hv hlt hk hc.1).2.2.2
        rw [← h2] at h3
        exact hr h3.symm
    rw [sm_congr e1, sm_comm]
    refine sm_congr (fun k hk => ?_)
    by_cases hd : degc c + k < 6
    · rw [if_pos hd]
      have hvc := chn_vc hv hlt hc.1 hd
      obtain ⟨r1, r2⟩ := cd_rk hvc
      rw [sm_one r2 (fun i hi hne => ?_)]
      · rw [r1, if_pos rfl]
      · rw [if_neg]
        intro h2
        exact hne (by rw [← (rk_cd hi).2, h2])
    · rw [if_neg hd]
      refine sm_zero (fun x hx => ?_)
      rw [if_neg]
      intro h2
      have h3 := (dg_low hv hlt hk hc.1).2.1
      have h4 := (rk_cd hx).1.2
      rw [h2, h3] at h4
      omega
  · rw [if_neg hlt]
    refine sm_zero (fun x hx => ?_)
    by_cases hr : c = rst (cd x) v
    · rw [if_pos hr]
      by_cases h6 : 6 ^ (v + 1) ≤ cd x
      · exact hF _ (rk_cd hx).1 h6
      · have := rst_low hv (by omega : cd x < 6 ^ (v + 1))
        omega
    · rw [if_neg hr]
/-- what stands beside a power of the expression -/
def Fj (P : Po) (v j : Nat) : Po := fun c => if c < 6 ^ v then sm 5 (fun k => if degc c + k < 6 then smL k j * P (c + k * 6 ^ v) else 0) else 0
theorem smL_0 {k j : Nat} (hk : k ≤ 5) (h : k + 1 < j) (hj : j ≤ 6) : smL k j = 0 := by
  rcases lowm hk with rfl | rfl | rfl | rfl | rfl | rfl <;> rcases (by omega : j = 2 ∨ j = 3 ∨ j = 4 ∨ j = 5 ∨ j = 6) with rfl | rfl | rfl | rfl | rfl <;> first | omega | rfl
theorem smL_5 (j : Nat) : smL 5 j = 0 := by
  show (smT.getD (30 + j) 0).toInt64 = 0
  have h : smT[30 + j]? = none := List.getElem?_eq_none (by show 30 ≤ 30 + j; omega)
  rw [List.getD_eq_getElem?_getD, h]; rfl
theorem dle_Fj {P : Po} {v j w : Nat} (hv : v ≤ 4) (hw : w ≤ 4) (hj1 : 1 ≤ j) (hj : j ≤ w + 1) (hP : dle w P) : dle (w + 1 - j) (Fj P v j) := by
  intro c hc hd
  unfold Fj
  split
  · rename_i hlt
    refine sm_zero (fun k hk => ?_)
    split
    · rename_i h6
      by_cases hkj : k + 1 < j
      · rw [smL_0 (by omega) hkj (by omega), Int64.zero_mul]
      · have hdg := (dg_low hv hlt (by omega : k < 6) hc.1).2.1
        rw [hP _ (chn_vc hv hlt hc.1 h6) (by omega), Int64.mul_zero]
    · rfl
  · rfl
theorem Fj_far {P : Po} {v j w : Nat} (hv : v ≤ 4) (hw : w ≤ 4) (hj : w + 1 < j) (hj6 : j ≤ 5) (hP : dle w P) : peq (Fj P v j) (fun _ => 0) := by
  intro c hc
  unfold Fj
  split
  · rename_i hlt
    refine sm_zero (fun k hk => ?_)
    split
    · rename_i h6
      by_cases hkj : k + 1 < j
      · rw [smL_0 (by omega) hkj (by omega), Int64.zero_mul]
      · have hdg := (dg_low hv hlt (by omega : k < 6) hc.1).2.1
        rw [hP _ (chn_vc hv hlt hc.1 h6) (by omega), Int64.mul_zero]
    · rfl
  · rfl
theorem sumS_eq {P : Po} {t : Nat → Nat} {d : Nat} (hd : d ≤ 2) (hP : vlt (3 + d) P) : peq (sumS P t d) (fun c => sm 5 (fun j => pwE (fun q => zl (t q)) d (j + 1) (Fj P (2 + d) (j + 1)) c)) := by
  intro c hc
  have h1 : ∀ x, x < 252 → tS P (fun q => zl (t q)) d (2 + d) x c = sm 5 (fun j => (P (cd x) * smL (dgv (cd x) (2 + d)) (j + 1)) * pwE (fun q => zl (t q)) d (j + 1) (del (rst (cd x) (2 + d))) c) := by
    intro x hx
    have hv := (rst_ok (rk_cd hx).1 (by omega : 2 + d < 5)).2.1
    have hk : dgv (cd x) (2 + d) < 6 := Nat.mod_lt _ (by decide)
    unfold tS
    have h2 : ∀ j, P (cd x) * smL (dgv (cd x) (2 + d)) (j + 1) * Sh (rst (cd x) (2 + d)) (pwE (fun q => zl (t q)) d (j + 1) (del 0)) c = (P (cd x) * smL (dgv (cd x) (2 + d)) (j + 1)) * pwE (fun q => zl (t q)) d (j + 1) (del (rst (cd x) (2 + d))) c := fun j => by
      rw [pwE_del (by omega) hv c hc]
    rw [sm_congr (fun j _ => h2 j)]
    by_cases h5 : dgv (cd x) (2 + d) = 5
    · rw [h5, sm_zero (fun j _ => by rw [smL_5, Int64.mul_zero, Int64.zero_mul]), sm_zero (fun j _ => by rw [smL_5, Int64.mul_zero, Int64.zero_mul])]
    · refine (sm_tail (by omega) (fun j h3 h4 => ?_)).symm
      rw [smL_0 (by omega) (by omega) (by omega), Int64.mul_zero, Int64.zero_mul]
  show sm 252 (fun x => tS P (fun q => zl (t q)) d (2 + d) x c) = _
  rw [sm_congr h1, sm_comm]
  refine sm_congr (fun j hj => ?_)
  have h3 := pwE_lc (e := fun q => zl (t q)) (d := d) (n := 252) (b := fun x => P (cd x) * smL (dgv (cd x) (2 + d)) (j + 1)) (Q := fun x => del (rst (cd x) (2 + d))) (by omega) (j + 1) c hc
  refine h3.symm.trans (pwE_congr (by omega) ?_ (j + 1) c hc)
  intro c' hc'
  show sm 252 (fun x => (P (cd x) * smL (dgv (cd x) (2 + d)) (j + 1)) * (if c' = rst (cd x) (2 + d) then 1 else 0)) = _
  have h4 : ∀ x, x < 252 → (P (cd x) * smL (dgv (cd x) (2 + d)) (j + 1)) * (if c' = rst (cd x) (2 + d) then 1 else 0) = if c' = rst (cd x) (2 + d) then (fun y => P y * smL (dgv y (2 + d)) (j + 1)) (cd x) else 0 := by
    intro x _
    split
    · exact Int64.mul_one _
    · exact Int64.mul_zero
  rw [sm_congr h4, fib (F := fun y => P y * smL (dgv y (2 + d)) (j + 1)) (by omega) hc' (fun x hx h6 => by
    show P x * _ = 0
    rw [hP x hx (by rw [show 3 + d = 2 + d + 1 by omega]; exact h6), Int64.zero_mul])]
  unfold Fj
  by_cases hlt : c' < 6 ^ (2 + d)
  · rw [if_pos hlt, if_pos hlt]
    have e5 : ∀ k, k < 6 → (if degc c' + k < 6 then P (c' + k * 6 ^ (2 + d)) * smL (dgv (c' + k * 6 ^ (2 + d)) (2 + d)) (j + 1) else 0) = if degc c' + k < 6 then smL k (j + 1) * P (c' + k * 6 ^ (2 + d)) else 0 := by
      intro k hk
      rw [(dg_low (by omega) hlt hk hc'.1).2.2.1, Int64.mul_comm]
    have e6 : (if degc c' + 5 < 6 then (0 : Int64) * P (c' + 5 * 6 ^ (2 + d)) else 0) = 0 := by
      split
      · exact Int64.zero_mul
      · rfl
    rw [sm_congr e5]
    show sm 5 _ + (if degc c' + 5 < 6 then smL 5 (j + 1) * P (c' + 5 * 6 ^ (2 + d)) else 0) = _
    rw [smL_5, e6, Int64.add_zero]
  · rw [if_neg hlt, if_neg hlt]
/-- rounds that are fixed -/
def Fx (P : Po) (t0 v w : Nat) : Po := fun c => if c < 6 ^ v ∧ degc c ≤ w then sm (w + 1) (fun k => if degc c + k < 6 then P (c + k * 6 ^ v) * sm t0 (fun i => ipw (zl (i + 1)) k) else 0) else 0
theorem sumF_eq {P : Po} {t : Nat → Nat} {d w : Nat} (hd : d ≤ 2) (hw : w ≤ 5) (hP : vlt (3 + d) P) (hP2 : dle w P) : peq (sumF P t d) (Fx P (t 0) (2 + d) w) := by
  intro c hc
  show sm 252 (fun x => fxS P (t 0) (2 + d) x c) = _
  unfold fxS
  rw [fib (F := fun y => sm (t 0) (fun i => P y * ipw (zl (i + 1)) (dgv y (2 + d)))) (by omega) hc (fun x hx h6 => by
    refine sm_zero (fun i _ => ?_)
    rw [hP x hx (by rw [show 3 + d = 2 + d + 1 by omega]; exact h6), Int64.zero_mul])]
  unfold Fx
  by_cases hlt : c < 6 ^ (2 + d)
  · rw [if_pos hlt]
    have e5 : ∀ k, k < 6 → (if degc c + k < 6 then sm (t 0) (fun i => P (c + k * 6 ^ (2 + d)) * ipw (zl (i + 1)) (dgv (c + k * 6 ^ (2 + d)) (2 + d))) else 0) = if degc c + k < 6 then P (c + k * 6 ^ (2 + d)) * sm (t 0) (fun i => ipw (zl (i + 1)) k) else 0 := by
      intro k hk
      rw [(dg_low (by omega) hlt hk hc.1).2.2.1, sm_mul]
    rw [sm_congr e5]
    by_cases hdw : degc c ≤ w
    · rw [if_pos ⟨hlt, hdw⟩]
      refine sm_tail (by omega) (fun k h1 h2 => ?_)
      split
      · rename_i h6
        have hdg := (dg_low (by omega) hlt h2 hc.1).2.1
        rw [hP2 _ (chn_vc (by omega) hlt hc.1 h6) (by omega), Int64.zero_mul]
      · rfl
    · rw [if_neg (fun h => hdw h.2)]
      refine sm_zero (fun k hk => ?_)
      split
      · rename_i h6
        have hdg := (dg_low (by omega) hlt hk hc.1).2.1
        rw [hP2 _ (chn_vc (by omega) hlt hc.1 h6) (by omega), Int64.zero_mul]
      · rfl
  · rw [if_neg hlt, if_neg (fun h => hlt h.1)]
/-- Horner: from the power j of the expression on -/
def hor (e : Nat → Int64) (d w : Nat) (F : Nat → Po) (j : Nat) : Po := fun c => sm (w + 2 - j) (fun u => pwE e d (u + 1) (F (j + u)) c)
theorem mulE_sm {e : Nat → Int64} {d : Nat} {Q : Nat → Po} (c : Nat) : ∀ m : Nat, mulE e d (fun c => sm m (fun u => Q u c)) c = sm m (fun u => mulE e d (Q u) c)
  | 0 => sm_zero (fun v _ => by
      show e v * Sh (sv v) (fun _ => 0) c = 0
      unfold Sh
      split <;> exact Int64.mul_zero)
  | m + 1 => by
    show mulE e d (fun c => sm m (fun u => Q u c) + Q m c) c = sm m (fun u => mulE e d (Q u) c) + mulE e d (Q m) c
    rw [mulE_add, mulE_sm c m]
theorem hor_S {e : Nat → Int64} {d w j : Nat} {F : Nat → Po} (hj : j ≤ w + 1) (c : Nat) : hor e d w F j c = mulE e d (fun c => hor e d w F (j + 1) c + F j c) c := by
  unfold hor
  rw [mulE_add, mulE_sm, show w + 2 - j = (w + 2 - (j + 1)) + 1 by omega, sm_head, Int64.add_comm]
  congr 1
  exact sm_congr (fun u _ => by rw [show j + (u + 1) = j + 1 + u by omega]; rfl)
theorem hor_dle {e : Nat → Int64} {d w : Nat} {F : Nat → Po} (hd : d ≤ 3) (hF : ∀ j, 1 ≤ j → j ≤ w + 1 → dle (w + 1 - j) (F j)) : ∀ f j : Nat, j + f = w + 2 → 1 ≤ j → dle (w + 2 - j) (hor e d w F j)
  | 0, j, h, h1 => by
    have ej : j = w + 2 := by omega
    subst ej
    intro c hc hn
    unfold hor
    rw [Nat.sub_self]; rfl
  | f + 1, j, h, h1 => by
    have ih := hor_dle (e := e) hd hF f (j + 1) (by omega) (by omega)
    have h2 : dle (w + 1 - j) (fun c => hor e d w F (j + 1) c + F j c) := fun c hc hn => by
      show hor e d w F (j + 1) c + F j c = 0
      rw [ih c hc (by omega), hF j h1 (by omega) c hc hn]; rfl
    have h3 := dle_mulE (e := e) hd h2
    intro c hc hn
    rw [hor_S (by omega)]
    exact h3 c hc (by omega)
