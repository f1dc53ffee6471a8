/-! polynomials: numbers by codes; shifts, products with an expression -/
abbrev Po : Type := Nat → Int64
def sm : Nat → (Nat → Int64) → Int64
  | 0, _ => 0
  | n + 1, f => sm n f + f n
theorem sm_congr {f g : Nat → Int64} : ∀ {n : Nat}, (∀ i, i < n → f i = g i) → sm n f = sm n g
  | 0, _ => rfl
  | n + 1, h => by
    unfold sm
    rw [sm_congr (fun i hi => h i (Nat.lt_succ_of_lt hi)), h n (Nat.lt_succ_self n)]
theorem sm_zero : ∀ {n : Nat} {f : Nat → Int64}, (∀ i, i < n → f i = 0) → sm n f = 0
  | 0, _, _ => rfl
  | n + 1, f, h => by
    unfold sm
    rw [sm_zero (fun i hi => h i (Nat.lt_succ_of_lt hi)), h n (Nat.lt_succ_self n)]; rfl
theorem sm_add {f g : Nat → Int64} : ∀ {n : Nat}, sm n (fun i => f i + g i) = sm n f + sm n g
  | 0 => rfl
  | n + 1 => by
    show sm n (fun i => f i + g i) + (f n + g n) = sm n f + f n + (sm n g + g n)
    rw [sm_add, Int64.add_assoc, Int64.add_assoc, ← Int64.add_assoc (sm n g), Int64.add_comm (sm n g) (f n), Int64.add_assoc]
theorem sm_mul {a : Int64} {f : Nat → Int64} : ∀ {n : Nat}, a * sm n f = sm n (fun i => a * f i)
  | 0 => Int64.mul_zero
  | n + 1 => by
    show a * (sm n f + f n) = sm n (fun i => a * f i) + a * f n
    rw [Int64.mul_add, sm_mul]
theorem sm_comm {f : Nat → Nat → Int64} : ∀ {n m : Nat}, sm n (fun i => sm m (fun j => f i j)) = sm m (fun j => sm n (fun i => f i j))
  | 0, m => (sm_zero (fun _ _ => rfl)).symm
  | n + 1, m => by
    show sm n (fun i => sm m (fun j => f i j)) + sm m (fun j => f n j) = sm m (fun j => sm n (fun i => f i j) + f n j)
    rw [sm_add, sm_comm]
theorem sm_one {f : Nat → Int64} {i0 : Nat} : ∀ {n : Nat}, i0 < n → (∀ i, i < n → i ≠ i0 → f i = 0) → sm n f = f i0
  | 0, h, _ => absurd h (Nat.not_lt_zero _)
  | n + 1, h, hz => by
    unfold sm
    by_cases e : i0 = n
    · subst e
      rw [sm_zero (fun i hi => hz i (Nat.lt_succ_of_lt hi) (Nat.ne_of_lt hi)), Int64.zero_add]
    · rw [sm_one (n := n) (by omega) (fun i hi => hz i (Nat.lt_succ_of_lt hi)), hz n (Nat.lt_succ_self n) (Ne.symm e), Int64.add_zero]
/-- equal at all codes that have rows -/
def peq (P R : Po) : Prop := ∀ c, vc c → P c = R c
theorem peq_refl (P : Po) : peq P P := fun _ _ => rfl
theorem peq_symm {P R : Po} (h : peq P R) : peq R P := fun c hc => (h c hc).symm
theorem peq_trans {P R S : Po} (h : peq P R) (h' : peq R S) : peq P S := fun c hc => (h c hc).trans (h' c hc)
def Sh (r : Nat) (P : Po) : Po := fun c => if sb r c then P (c - r) else 0
theorem Sh_congr {P R : Po} {r : Nat} (hr : r < 7776) (h : peq P R) : peq (Sh r P) (Sh r R) := by
  intro c hc
  unfold Sh
  by_cases hs : sb r c
  · rw [if_pos hs, if_pos hs]; exact h _ (vc_sub hr hc hs)
  · rw [if_neg hs, if_neg hs]
theorem Sh_comm {P : Po} {r u : Nat} (hr : r < 7776) (hu : u < 7776) : peq (Sh r (Sh u P)) (Sh u (Sh r P)) := by
  intro c hc
  unfold Sh
  by_cases h1 : sb r c ∧ sb u (c - r)
  · have h2 := (sb_comm hr hu hc.1).mp h1
    rw [if_pos h1.1, if_pos h1.2, if_pos h2.1, if_pos h2.2]
    exact congrArg P (by rw [Nat.sub_sub, Nat.sub_sub, Nat.add_comm])
  · have h2 : ¬ (sb u c ∧ sb r (c - u)) := fun h => h1 ((sb_comm hr hu hc.1).mpr h)
    have z : ∀ {a b : Prop} (_ : ¬ (a ∧ b)) (_ : Decidable a) (_ : Decidable b) (x : Int64), (if a then (if b then x else 0) else 0) = (0 : Int64) := by
      intro a b hab _ _ x
      by_cases ha : a
      · rw [if_pos ha, if_neg (fun hb => hab ⟨ha, hb⟩)]
      · rw [if_neg ha]
    rw [z h1, z h2]
theorem Sh_0 (P : Po) (c : Nat) : Sh 0 P c = P c := by
  unfold Sh
  rw [if_pos (sb_iff.mpr ⟨Nat.zero_le _, Nat.zero_le _, Nat.zero_le _, Nat.zero_le _, Nat.zero_le _⟩), Nat.sub_zero]
/-- a sum of polynomials -/
def lc (n : Nat) (b : Nat → Int64) (Q : Nat → Po) : Po := fun c => sm n (fun i => b i * Q i c)
theorem Sh_lc {r n : Nat} {b : Nat → Int64} {Q : Nat → Po} (c : Nat) : Sh r (lc n b Q) c = lc n b (fun i => Sh r (Q i)) c := by
  unfold Sh lc
  by_cases h : sb r c
  · rw [if_pos h]
    exact sm_congr (fun i _ => by show b i * Q i (c - r) = b i * (if sb r c then Q i (c - r) else 0); rw [if_pos h])
  · rw [if_neg h]
    exact (sm_zero (fun i _ => by show b i * (if sb r c then Q i (c - r) else 0) = 0; rw [if_neg h, Int64.mul_zero])).symm
def sv : Nat → Nat
  | 0 => 0
  | v + 1 => 6 ^ v
theorem sv_lt {v : Nat} (h : v < 6) : sv v < 7776 := by
  have h' : v = 0 ∨ v = 1 ∨ v = 2 ∨ v = 3 ∨ v = 4 ∨ v = 5 := by omega
  rcases h' with rfl | rfl | rfl | rfl | rfl | rfl <;> decide
/-- times an expression with d loops around -/
def mulE (e : Nat → Int64) (d : Nat) (P : Po) : Po := lc (3 + d) e (fun v => Sh (sv v) P)
theorem mulE_congr {e : Nat → Int64} {d : Nat} {P R : Po} (hd : d ≤ 3) (h : peq P R) : peq (mulE e d P) (mulE e d R) := by
  intro c hc
  exact sm_congr (fun v hv => congrArg (e v * ·) (Sh_congr (sv_lt (by omega)) h c hc))
theorem Sh_mulE {e : Nat → Int64} {d r : Nat} {P : Po} (hd : d ≤ 3) (hr : r < 7776) : peq (Sh r (mulE e d P)) (mulE e d (Sh r P)) := by
  intro c hc
  unfold mulE
  rw [Sh_lc]
  exact sm_congr (fun v hv => congrArg (e v * ·) (Sh_comm hr (sv_lt (by omega)) c hc))
theorem mulE_lc {e : Nat → Int64} {d n : Nat} {b : Nat → Int64} {Q : Nat → Po} (c : Nat) : mulE e d (lc n b Q) c = lc n b (fun i => mulE e d (Q i)) c := by
  unfold mulE
  show sm (3 + d) (fun v => e v * Sh (sv v) (lc n b Q) c) = sm n (fun i => b i * sm (3 + d) (fun v => e v * Sh (sv v) (Q i) c))
  have h1 : sm (3 + d) (fun v => e v * Sh (sv v) (lc n b Q) c) = sm (3 + d) (fun v => sm n (fun i => e v * (b i * Sh (sv v) (Q i) c))) := sm_congr (fun v _ => by rw [Sh_lc]; exact sm_mul)
  rw [h1, sm_comm]
  refine sm_congr (fun i _ => ?_)
  rw [sm_mul]
  exact sm_congr (fun v _ => by rw [← Int64.mul_assoc, ← Int64.mul_assoc, Int64.mul_comm (e v)])
theorem mulE_comm {e e' : Nat → Int64} {d d' : Nat} {P : Po} (hd : d ≤ 3) (hd' : d' ≤ 3) : peq (mulE e d (mulE e' d' P)) (mulE e' d' (mulE e d P)) := by
  intro c hc
  have h : ∀ (f : Nat → Int64) (k : Nat), mulE e d (lc k f (fun v => Sh (sv v) P)) c = lc k f (fun v => mulE e d (Sh (sv v) P)) c := fun f k => mulE_lc c
  show mulE e d (lc (3 + d') e' (fun v => Sh (sv v) P)) c = _
  rw [h]
  exact sm_congr (fun v hv => congrArg (e' v * ·) (Sh_mulE hd (sv_lt (by omega)) c hc).symm)
/-- times a power of an expression -/
def pwE (e : Nat → Int64) (d : Nat) : Nat → Po → Po
  | 0, P => P
  | j + 1, P => mulE e d (pwE e d j P)
theorem pwE_congr {e : Nat → Int64} {d : Nat} {P R : Po} (hd : d ≤ 3) (h : peq P R) : ∀ j, peq (pwE e d j P) (pwE e d j R)
  | 0 => h
  | j + 1 => mulE_congr hd (pwE_congr hd h j)
theorem Sh_pwE {e : Nat → Int64} {d r : Nat} {P : Po} (hd : d ≤ 3) (hr : r < 7776) : ∀ j, peq (Sh r (pwE e d j P)) (pwE e d j (Sh r P))
  | 0 => peq_refl _
  | j + 1 => peq_trans (Sh_mulE hd hr) (mulE_congr hd (Sh_pwE hd hr j))
theorem pwE_lc {e : Nat → Int64} {d n : Nat} {b : Nat → Int64} {Q : Nat → Po} (hd : d ≤ 3) : ∀ j, peq (pwE e d j (lc n b Q)) (lc n b (fun i => pwE e d j (Q i)))
  | 0 => peq_refl _
  | j + 1 => fun c hc => (mulE_congr hd (pwE_lc hd j) c hc).trans (mulE_lc c)
theorem pwE_mulE {e e' : Nat → Int64} {d d' : Nat} {P : Po} (hd : d ≤ 3) (hd' : d' ≤ 3) : ∀ j, peq (pwE e d j (mulE e' d' P)) (mulE e' d' (pwE e d j P))
  | 0 => peq_refl _
  | j + 1 => peq_trans (mulE_congr hd (pwE_mulE hd hd' j)) (mulE_comm hd hd')
theorem pwE_comm {e e' : Nat → Int64} {d d' : Nat} {P : Po} (hd : d ≤ 3) (hd' : d' ≤ 3) (i : Nat) : ∀ j, peq (pwE e d i (pwE e' d' j P)) (pwE e' d' j (pwE e d i P))
  | 0 => peq_refl _
  | j + 1 => peq_trans (pwE_mulE hd hd' i) (mulE_congr hd' (pwE_comm hd hd' i j))
/-- a single product -/
def del (a : Nat) : Po := fun c => if c = a then 1 else 0
theorem Sh_del {r a : Nat} (hr : r < 7776) (ha : a < 7776) (hd : degc a + degc r < 6) : peq (Sh r (del a)) (del (a + r)) := by
  intro c hc
  obtain ⟨h1, h2, -⟩ := sb_add hr ha (by rw [Nat.add_comm]; exact hd)
  unfold Sh del
  by_cases e : c = a + r
  · subst e
    rw [if_pos (by rw [Nat.add_comm]; exact h2), if_pos (Nat.add_sub_cancel a r), if_pos rfl]
  · rw [if_neg e]
    by_cases hs : sb r c
    · rw [if_pos hs, if_neg]
      intro h
      have := (sbq_dg hr hc.1 hs).1
      exact e (by rw [← h, Nat.sub_add_cancel this])
    · rw [if_neg hs]
theorem pwE_del {e : Nat → Int64} {d r j : Nat} (hd : d ≤ 3) (hr : vc r) : peq (pwE e d j (del r)) (Sh r (pwE e d j (del 0))) := by
  refine peq_symm (peq_trans (Sh_pwE hd hr.1 j) (pwE_congr hd ?_ j))
  have h := Sh_del (r := r) (a := 0) hr.1 (by decide) (by show 0 + degc r < 6; rw [Nat.zero_add]; exact hr.2)
  rw [Nat.zero_add] at h
  exact h
/-- a polynomial out of its products -/
theorem del_sum (P : Po) : peq P (lc 252 (fun i => P (cd i)) (fun i => del (cd i))) := by
  intro c hc
  obtain ⟨h1, h2⟩ := cd_rk hc
  unfold lc
  rw [sm_one h2 (fun i hi hne => ?_)]
  · show P c = P (cd (rk c)) * (if c = cd (rk c) then 1 else 0)
    rw [h1, if_pos rfl, Int64.mul_one]
  · show P (cd i) * (if c = cd i then 1 else 0) = 0
    rw [if_neg, Int64.mul_zero]
    intro h
    exact hne (by rw [h, (rk_cd hi).2])
/-- nothing of more powers -/
def dle (n : Nat) (P : Po) : Prop := ∀ c, vc c → n < degc c → P c = 0
theorem sv_deg {v : Nat} (h : v < 6) : degc (sv v) ≤ 1 := by
  have h' : v = 0 ∨ v = 1 ∨ v = 2 ∨ v = 3 ∨ v = 4 ∨ v = 5 := by omega
  rcases h' with rfl | rfl | rfl | rfl | rfl | rfl <;> decide
theorem dle_mulE {e : Nat → Int64} {d n : Nat} {P : Po} (hd : d ≤ 3) (h : dle n P) : dle (n + 1) (mulE e d P) := by
  intro c hc hn
  refine sm_zero (fun v hv => ?_)
  show e v * Sh (sv v) P c = 0
  unfold Sh
  by_cases hs : sb (sv v) c
  · have h1 := degc_sub (sv_lt (by omega)) hc.1 hs
    have h2 := sv_deg (v := v) (by omega)
    rw [if_pos hs, h _ (vc_sub (sv_lt (by omega)) hc hs) (by omega), Int64.mul_zero]
  · rw [if_neg hs, Int64.mul_zero]
theorem dle_del : dle 0 (del 0) := by
  intro c hc hn
  unfold del
  rw [if_neg]
  intro h
  subst h
  exact absurd hn (by decide)
theorem dle_pwE {e : Nat → Int64} {d : Nat} (hd : d ≤ 3) : ∀ j, dle j (pwE e d j (del 0))
  | 0 => dle_del
  | j + 1 => dle_mulE hd (dle_pwE hd j)
