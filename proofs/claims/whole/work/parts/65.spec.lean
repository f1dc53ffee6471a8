/-! formulas as both sides reckon them, op by op: rows of those that are not at their ends, the innermost first -/
theorem oi1 : Int32.ofInt 1 = zi 1 := rfl
theorem oi2 : Int32.ofInt (1 + 1) = zi 2 := rfl
theorem oi3 : Int32.ofInt ((1 + 1) + 1) = zi 3 := rfl
theorem oi4 : Int32.ofInt (((1 + 1) + 1) + 1) = zi 4 := rfl
theorem oi5 : Int32.ofInt ((((1 + 1) + 1) + 1) + 1) = zi 5 := rfl
theorem oi6 : Int32.ofInt (((((1 + 1) + 1) + 1) + 1) + 1) = zi 6 := rfl
theorem oi7 : Int32.ofInt ((((((1 + 1) + 1) + 1) + 1) + 1) + 1) = zi 7 := rfl
theorem oi8 : Int32.ofInt (((((((1 + 1) + 1) + 1) + 1) + 1) + 1) + 1) = zi 8 := rfl
def cst (w : Nat) : Po := fun c => if c = 0 then 8640 * zl w else 0
def ad0 (P : Po) : Po := fun c => if c = 0 then P c + 8640 else P c
abbrev pad (T S : Po) : Po := fun c => T c + S c
def jn (T S : Po) (R : List Po) : Option (List Po) := bif gdn S 252 && gdn (pad T S) 252 then some (pad T S :: R) else none
def sfp (sd k w : Nat) (t u : Nat → Nat) (W : Option Po) (l : Nat) : List Po → Option (List Po)
  | [] => none
  | T :: R => if k = 1 then jn T (cst w) R else if k = 4 then (match W with
      | none => none
      | some V => jn T (ad0 (putP V (fun q => zl (t q)) (fun q => zl (t (6 + q))) l)) R)
    else if k = 6 then (match R with
      | [] => none
      | A :: R2 => bif sumOk (ad0 T) u (l - 1) then jn A (sumR (ad0 T) u (l - 1)) R2 else none)
    else if k = 8 then (match R with
      | A :: B :: R2 => jn B (ad0 (fun c => mmx sd (A c) (T c))) R2
      | _ => none)
    else some ((fun _ => 0) :: T :: R)
theorem sfp_c (sd k w : Nat) (t u : Nat → Nat) (W : Option Po) (l : Nat) (T : Po) (R : List Po) : sfp sd k w t u W l (T :: R) = (if k = 1 then jn T (cst w) R else if k = 4 then (match W with
      | none => none
      | some V => jn T (ad0 (putP V (fun q => zl (t q)) (fun q => zl (t (6 + q))) l)) R)
    else if k = 6 then (match R with
      | [] => none
      | A :: R2 => bif sumOk (ad0 T) u (l - 1) then jn A (sumR (ad0 T) u (l - 1)) R2 else none)
    else if k = 8 then (match R with
      | A :: B :: R2 => jn B (ad0 (fun c => mmx sd (A c) (T c))) R2
      | _ => none)
    else some ((fun _ => 0) :: T :: R)) := rfl
def rws (Q : Pg) (F : Nat → Option Po) (sd r : Nat) : Nat → Option (List Po)
  | 0 => some [fun _ => 0]
  | p + 1 => (rws Q F sd r p).bind (sfp sd (qk Q r p) (qw Q r p) (qt Q r p) (qt Q r (hdp (stk (qk Q r) p))) (F (qd Q r p)) (lps (stk (qk Q r) p)))
theorem rws_none {Q F sd r p} (h : rws Q F sd r p = none) : ∀ d, rws Q F sd r (p + d) = none
  | 0 => h
  | d + 1 => by
    show (rws Q F sd r (p + d)).bind _ = none
    rw [rws_none h d]; rfl
/-- rows that lie ahead of the innermost one -/
def rc : List (Nat × Nat) → Nat
  | [] => 0
  | q :: T => (if q.2 = 2 then 2 else 1) + rc T
theorem rc_0 (q T) : rc ((q, 0) :: T) = 1 + rc T := rfl
theorem rc_1 (q T) : rc ((q, 1) :: T) = 1 + rc T := rfl
theorem rc_2 (q T) : rc ((q, 2) :: T) = 2 + rc T := rfl
theorem rc_le {K : Nat → Nat} : ∀ {p : Nat}, WF K p → rc (stk K p) ≤ p
  | 0, _ => Nat.le_refl _
  | p + 1, hW => by
    have ih := rc_le (WF_le hW (Nat.le_succ p))
    have e0 : stk K (p + 1) = stq (K p) p (stk K p) := rfl
    rw [e0]
    rcases stq_ok (p := p) (hW p (Nat.lt_succ_self p)) with ⟨-, e⟩ | ⟨-, e⟩ | ⟨-, e⟩ | ⟨q, T, hS, -, e⟩ | ⟨q, T, hS, -, e⟩ | ⟨q, T, hS, -, e⟩ <;> rw [e]
    · omega
    · rw [rc_0]; omega
    · rw [rc_1]; omega
    · rw [hS, rc_0] at ih; omega
    · rw [hS, rc_1] at ih; rw [rc_2]; omega
    · rw [hS, rc_2] at ih; omega
/-- how many ops are wanting at least, till all is closed -/
def clc : List (Nat × Nat) → Nat
  | [] => 0
  | q :: T => (if q.2 = 1 then 2 else 1) + clc T
theorem clc_0 (q T) : clc ((q, 0) :: T) = 1 + clc T := rfl
theorem clc_1 (q T) : clc ((q, 1) :: T) = 2 + clc T := rfl
theorem clc_2 (q T) : clc ((q, 2) :: T) = 1 + clc T := rfl
theorem clc_le {K : Nat → Nat} {n : Nat} (hW : WF K n) (h0 : stk K n = []) : ∀ d p : Nat, p + d = n → clc (stk K p) ≤ d
  | 0, p, h => by
    have : p = n := by omega
    rw [this, h0]; exact Nat.le_refl _
  | d + 1, p, h => by
    have ih := clc_le hW h0 d (p + 1) (by omega)
    have e0 : stk K (p + 1) = stq (K p) p (stk K p) := rfl
    rw [e0] at ih
    rcases stq_ok (p := p) (hW p (by omega)) with ⟨-, e⟩ | ⟨-, e⟩ | ⟨-, e⟩ | ⟨q, T, hS, -, e⟩ | ⟨q, T, hS, -, e⟩ | ⟨q, T, hS, -, e⟩ <;> rw [e] at ih
    · omega
    · rw [clc_0] at ih; omega
    · rw [clc_1] at ih; omega
    · rw [hS, clc_0]; omega
    · rw [clc_2] at ih; rw [hS, clc_1]; omega
    · rw [hS, clc_2]; omega
theorem rc_clc : ∀ S : List (Nat × Nat), (∀ q ∈ S, q.2 ≤ 2) → 3 * rc S ≤ 2 * (rc S + clc S)
  | [], _ => Nat.le_refl _
  | q :: T, h => by
    have ih := rc_clc T (fun a ha => h a (List.mem_cons_of_mem _ ha))
    have hq := h q (List.mem_cons_self ..)
    unfold rc clc
    have h' : q.2 = 0 ∨ q.2 = 1 ∨ q.2 = 2 := by omega
    rcases h' with e | e | e <;> rw [e] <;> simp only [Nat.reduceEqDiff, if_true, if_false] <;> omega
/-- of a whole routine there are never more than 17 rows -/
theorem rc_16 {K : Nat → Nat} {n p : Nat} (hW : WF K n) (h0 : stk K n = []) (hn : n ≤ 24) (hp : p ≤ n) : rc (stk K p) ≤ 16 := by
  have h1 := rc_le (WF_le hW hp)
  have h2 := clc_le hW h0 (n - p) p (by omega)
  have h3 := rc_clc (stk K p) (stk_b K p)
  omega
theorem jn_len {T S : Po} {R R' : List Po} (h : jn T S R = some R') : R'.length = R.length + 1 := by
  unfold jn at h
  cases hb : (gdn S 252 && gdn (pad T S) 252) <;> rw [hb] at h
  · cases h
  · cases h; rfl
theorem sfp_len {sd k w l t u W p S R R'} (hk : okc k S) (hl : R.length = 1 + rc S) (h : sfp sd k w t u W l R = some R') : R'.length = 1 + rc (stq k p S) := by
  cases R with
  | nil => cases h
  | cons T R =>
    rw [List.length_cons] at hl
    rw [sfp_c] at h
    rcases hk with rfl | ⟨rfl, -⟩ | rfl | rfl | ⟨rfl, q, T', rfl⟩ | ⟨rfl, q, T', rfl⟩ | ⟨rfl, q, T', rfl⟩
    · rw [if_pos rfl] at h; rw [jn_len h, stq_1]; omega
    · simp only [Nat.reduceEqDiff, if_false] at h; cases h; rw [stq_3, rc_0]; simp only [List.length_cons]; omega
    · simp only [Nat.reduceEqDiff, if_false, if_true] at h
      cases W with
      | none => cases h
      | some V => rw [jn_len h, stq_4]; omega
    · simp only [Nat.reduceEqDiff, if_false] at h; cases h; rw [stq_5, rc_1]; simp only [List.length_cons]; omega
    · simp only [Nat.reduceEqDiff, if_false, if_true] at h
      cases R with
      | nil => cases h
      | cons A R2 =>
        cases hb : sumOk (ad0 T) u (l - 1) <;> simp only [hb, cnd_f, cnd_t] at h
        · cases h
        · rw [rc_0, List.length_cons] at hl
          rw [jn_len h, stq_6]; show _ = 1 + rc T'; omega
    · simp only [Nat.reduceEqDiff, if_false] at h; cases h; rw [stq_7, rc_2]; rw [rc_1] at hl; simp only [List.length_cons]; omega
    · simp only [Nat.reduceEqDiff, if_false, if_true] at h
      rw [rc_2] at hl
      cases R with
      | nil => cases h
      | cons A R2 =>
        cases R2 with
        | nil => cases h
        | cons B R3 =>
          simp only [List.length_cons] at hl
          rw [jn_len h, stq_8]; show _ = 1 + rc T'; omega
theorem rws_len {Q F sd r} (hW : WF (qk Q r) (qn Q r)) : ∀ {p : Nat} {R : List Po}, p ≤ qn Q r → rws Q F sd r p = some R → R.length = 1 + rc (stk (qk Q r) p)
  | 0, R, _, h => by cases h; rfl
  | p + 1, R, hp, h => by
    obtain ⟨R0, h1, h2⟩ := Option.bind_eq_some_iff.mp h
    exact sfp_len (p := p) (hW p (by omega)) (rws_len hW (by omega) h1) h2
theorem rws_congr {Q F F' sd r} : ∀ {p : Nat}, (∀ q, q < p → qk Q r q = 4 → F (qd Q r q) = F' (qd Q r q)) → rws Q F sd r p = rws Q F' sd r p
  | 0, _ => rfl
  | p + 1, h => by
    have ih := rws_congr (F := F) (F' := F') (sd := sd) (p := p) (fun q hq => h q (by omega))
    show (rws Q F sd r p).bind _ = (rws Q F' sd r p).bind _
    rw [ih]
    by_cases hk : qk Q r p = 4
    · rw [h p (by omega) hk]
    · congr 1
      funext R
      cases R with
      | nil => rfl
      | cons T R => rw [sfp_c, sfp_c, if_neg hk, if_neg hk]
/-- the formula of a routine, or none if it is full -/
def fmn (Q : Pg) (sd : Nat) : Nat → Nat → Option Po
  | 0 => fun _ => none
  | m + 1 => fun r => if r = m then (rws Q (fmn Q sd m) sd m (qn Q m)).map (fun R => R.headD (fun _ => 0)) else fmn Q sd m r
theorem fmn_S (Q sd m r) : fmn Q sd (m + 1) r = if r = m then (rws Q (fmn Q sd m) sd m (qn Q m)).map (fun R => R.headD (fun _ => 0)) else fmn Q sd m r := rfl
def fml (Q : Pg) (sd r : Nat) : Option Po := fmn Q sd 8 r
theorem fmn_le {Q sd r} : ∀ {m : Nat}, r < m → fmn Q sd m r = fmn Q sd (r + 1) r
  | 0, h => by omega
  | m + 1, h => by
    by_cases e : r = m
    · rw [e]
    · rw [fmn_S, if_neg e]; exact fmn_le (by omega)
theorem fml_eq {Q sd r} (hW : WP Q) (hr : r < 8) : fml Q sd r = (rws Q (fml Q sd) sd r (qn Q r)).map (fun R => R.headD (fun _ => 0)) := by
  unfold fml
  rw [fmn_le hr, fmn_S, if_pos rfl]
  congr 1
  refine rws_congr (fun q hq hk => ?_)
  have hd := hW.2.2.2.2.2.1 r q hq hk
  rw [fmn_le hd, fmn_le (by omega : qd Q r q < 8)]
/-- whole, and so all that it calls -/
def whn (Q : Pg) : Nat → Nat → Bool
  | 0 => fun _ => false
  | m + 1 => fun r => if r = m then (stk (qk Q m) (qn Q m)).isEmpty && (List.range (qn Q m)).all (fun p => qk Q m p != 4 || whn Q m (qd Q m p)) else whn Q m r
theorem whn_S (Q m r) : whn Q (m + 1) r = if r = m then (stk (qk Q m) (qn Q m)).isEmpty && (List.range (qn Q m)).all (fun p => qk Q m p != 4 || whn Q m (qd Q m p)) else whn Q m r := rfl
def whl (Q : Pg) (r : Nat) : Bool := whn Q 8 r
theorem whn_le {Q r} : ∀ {m : Nat}, r < m → whn Q m r = whn Q (r + 1) r
  | 0, h => by omega
  | m + 1, h => by
    by_cases e : r = m
    · rw [e]
    · rw [whn_S, if_neg e]; exact whn_le (by omega)
def whp (Q : Pg) (r : Nat) : Nat → Bool
  | 0 => (stk (qk Q r) (qn Q r)).isEmpty
  | p + 1 => whp Q r p && (decide (qk Q r p ≠ 4) || whl Q (qd Q r p))
theorem whp_all {Q r} : ∀ p, whp Q r p = ((stk (qk Q r) (qn Q r)).isEmpty && (List.range p).all (fun p => qk Q r p != 4 || whl Q (qd Q r p)))
  | 0 => by rw [List.range_zero, List.all_nil, Bool.and_true]; rfl
  | p + 1 => by
    rw [List.range_succ, List.all_append, List.all_cons, List.all_nil, Bool.and_true, whp, whp_all p, Bool.and_assoc]
    congr 2
    by_cases h : qk Q r p = 4
    · rw [h]; rfl
    · rw [decide_eq_true h, show (qk Q r p != 4) = true from bne_iff_ne.mpr h]
theorem whl_eq {Q r} (hW : WP Q) (hr : r < 8) : whl Q r = whp Q r (qn Q r) := by
  rw [whp_all]
  unfold whl
  rw [whn_le hr, whn_S, if_pos rfl]
  congr 1
  rw [Bool.eq_iff_iff, List.all_eq_true, List.all_eq_true]
  have key : ∀ p, p ∈ List.range (qn Q r) → ((qk Q r p != 4 || whn Q r (qd Q r p)) = (qk Q r p != 4 || whn Q 8 (qd Q r p))) := by
    intro p hp
    by_cases h : qk Q r p = 4
    · have hd := hW.2.2.2.2.2.1 r p (List.mem_range.mp hp) h
      rw [whn_le hd, whn_le (by omega : qd Q r p < 8)]
    · rw [show (qk Q r p != 4) = true from bne_iff_ne.mpr h, Bool.true_or, Bool.true_or]
  exact ⟨fun h p hp => by rw [← key p hp]; exact h p hp, fun h p hp => by rw [key p hp]; exact h p hp⟩
theorem whp_mono {Q r} {a : Nat} (h : whp Q r a = false) : ∀ d, whp Q r (a + d) = false
  | 0 => h
  | d + 1 => by show (whp Q r (a + d) && _) = false; rw [whp_mono h d]; rfl
theorem whl_nil {Q r} (hW : WP Q) (hr : r < 8) (h : whl Q r = true) : stk (qk Q r) (qn Q r) = [] := by
  rw [whl_eq hW hr] at h
  cases hs : stk (qk Q r) (qn Q r) with
  | nil => rfl
  | cons a T =>
    have h0 : whp Q r 0 = false := by show (stk _ _).isEmpty = false; rw [hs]; rfl
    have := whp_mono h0 (qn Q r)
    rw [Nat.zero_add] at this
    rw [this] at h; cases h
theorem whl_call {Q r p} (hW : WP Q) (hr : r < 8) (h : whl Q r = true) (hp : p < qn Q r) (hk : qk Q r p = 4) : whl Q (qd Q r p) = true := by
  rw [whl_eq hW hr] at h
  cases hd : whl Q (qd Q r p)
  · have h0 : whp Q r (p + 1) = false := by rw [whp, hd, hk]; simp
    have := whp_mono h0 (qn Q r - (p + 1))
    rw [show p + 1 + (qn Q r - (p + 1)) = qn Q r by omega] at this
    rw [this] at h; cases h
  · rfl
