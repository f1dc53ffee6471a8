/-! sure, count: both sides -/
def sme (P R : Po) : Nat → Bool
  | 0 => true
  | k + 1 => sme P R k && decide (F36 P k = F36 R k)
def sma (P R : Po) : Nat → Bool
  | 0 => true
  | k + 1 => sma P R k && decide (P (cd k) = R (cd k))
theorem sme_S (P R k) : sme P R (k + 1) = (sme P R k && decide (F36 P k = F36 R k)) := rfl
theorem sma_S (P R k) : sma P R (k + 1) = (sma P R k && decide (P (cd k) = R (cd k))) := rfl
theorem sme_at {P R : Po} : ∀ {n k : Nat}, sme P R n = true → k < n → F36 P k = F36 R k
  | 0, k, _, hk => by omega
  | n + 1, k, h, hk => by
    rw [sme_S, Bool.and_eq_true, decide_eq_true_eq] at h
    by_cases e : k = n
    · rw [e]; exact h.2
    · exact sme_at h.1 (by omega)
theorem sme_of {P R : Po} : ∀ {n : Nat}, (∀ k, k < n → F36 P k = F36 R k) → sme P R n = true
  | 0, _ => rfl
  | n + 1, h => by rw [sme_S, sme_of (fun k hk => h k (by omega)), decide_eq_true (h n (by omega))]; rfl
theorem sma_at {P R : Po} : ∀ {n k : Nat}, sma P R n = true → k < n → P (cd k) = R (cd k)
  | 0, k, _, hk => by omega
  | n + 1, k, h, hk => by
    rw [sma_S, Bool.and_eq_true, decide_eq_true_eq] at h
    by_cases e : k = n
    · rw [e]; exact h.2
    · exact sma_at h.1 (by omega)
theorem sma_of {P R : Po} : ∀ {n : Nat}, (∀ k, k < n → P (cd k) = R (cd k)) → sma P R n = true
  | 0, _ => rfl
  | n + 1, h => by rw [sma_S, sma_of (fun k hk => h k (by omega)), decide_eq_true (h n (by omega))]; rfl
theorem sme_mono {P R : Po} {a : Nat} (h : sme P R a = false) : ∀ d, sme P R (a + d) = false
  | 0 => h
  | d + 1 => by show (sme P R (a + d) && _) = false; rw [sme_mono h d]; rfl
theorem sma_sme {P R : Po} (hP : vlt 2 P) (hR : vlt 2 R) : sma P R 252 = sme P R 36 := by
  rw [Bool.eq_iff_iff]
  constructor
  · intro h
    refine sme_of (fun k hk => ?_)
    unfold F36
    split
    · rename_i h5
      obtain ⟨v1, -, -, -, -⟩ := code_ab h5
      obtain ⟨r1, r2⟩ := cd_rk v1
      have := sma_at h r2
      rw [r1] at this; exact this
    · rfl
  · intro h
    refine sma_of (fun k hk => ?_)
    have hv := (rk_cd hk).1
    by_cases h36 : 36 ≤ cd k
    · rw [hP _ hv h36, hR _ hv h36]
    · have hdc : degc (cd k) = cd k % 6 + cd k / 6 := by
        show cd k % 6 + cd k / 6 % 6 + cd k / 36 % 6 + cd k / 216 % 6 + cd k / 1296 % 6 = _
        omega
      have h5 : cd k % 6 + cd k / 6 ≤ 5 := by have := hv.2; omega
      have := sme_at h (k := cd k % 6 * 6 + cd k / 6) (by omega)
      rw [F36_at (by omega), F36_at (by omega), if_pos h5, if_pos h5, Nat.mod_add_div] at this
      exact this
/-- whether a routine is sure -/
def srB (Q : Pg) (r : Nat) : Bool := whl Q r && (match fml Q 0 r, fml Q 1 r with
  | some P, some R => sme P R 36
  | _, _ => false)
def rSure (Q : Pg) (x : Int32) : Int32 := bif isN x (qc Q) then (bif whl Q x.toNatClampNeg then (bif (fml Q 0 x.toNatClampNeg).isSome && (fml Q 1 x.toNatClampNeg).isSome then bz (srB Q x.toNatClampNeg) else -1000003) else -1000002) else -1000001
theorem srB_some {Q r P R} (hw : whl Q r = true) (h0 : fml Q 0 r = some P) (h1 : fml Q 1 r = some R) : srB Q r = sme P R 36 := by
  unfold srB; rw [hw, h0, h1]; rfl
theorem m172 {G : AG} (hG : FIX G) {s : Nat → Nat × Nat} {mr : Nat → Nat → Nat} (hM : MS s mr) {n : Nat × Nat} {mi : Nat → Nat → Int32} {ml : Nat → Nat → Int64} {r : Nat} {P R : Po} (hr : r < 8) (hP : MPo (2 * r) P ml) (hR : MPo (2 * r + 1) R ml) : G 172 0 [some (.inr (.inr 114)), some (.inl (zi r)), none, none] [] (s, n, mi, ml, mr) = some (some (.inl (bz (sma P R 252))), (s, n, mi, ml, mr)) := by
  have L : ∀ (f k : Nat), k + f = 252 → G 172 4 [some (.inr (.inr 114)), some (.inl (zi r)), some (.inl (bz (sma P R k))), some (.inl (zi k))] [] (s, n, mi, ml, mr) = some (some (.inl (bz (sma P R 252))), (s, n, mi, ml, mr)) := by
    intro f
    induction f with
    | zero =>
      intro k hk
      have e : k = 252 := by omega
      subst e
      refine (b172_4 hG ..).trans ?_
      rw [show decide ((252 : Int32) ≤ zi 252) = true from by decide, cnd_t, bz_ret]
    | succ f ih =>
      intro k hk
      have hi := ih (k + 1) (by omega)
      rw [sma_S] at hi
      refine (b172_4 hG ..).trans ?_
      have c0 : decide ((252 : Int32) ≤ zi k) = false := decide_eq_false (by show ¬ zi 252 ≤ zi k; rw [zi_le (by omega) (by omega)]; omega)
      rw [c0, cnd_f, bz_0]
      cases hs : sma P R k
      · rw [hs] at hi
        rw [Bool.not_false, cnd_t]
        refine (b172_51 hG ..).trans ((b172_52 hG ..).trans ?_)
        rw [show zi k + 1 = zi (k + 1) from zi_add k 1]
        exact hi
      · rw [hs, Bool.true_and] at hi
        have e1 : (504 : Int32) * zi r + zi k = zi (252 * (2 * r) + k) := by rw [show (504 : Int32) = zi 504 from rfl, zi_mul, zi_add]; congr 1; omega
        have e2 : (252 : Int32) * ((2 * zi r) + 1) + zi k = zi (252 * (2 * r + 1) + k) := by rw [show (252 : Int32) = zi 252 from rfl, show (2 : Int32) = zi 2 from rfl, show (1 : Int32) = zi 1 from rfl, zi_mul, zi_add, zi_mul, zi_add]
        rw [Bool.not_true, cnd_f, gm67 hM, bind_s, e1, am126 hM (by omega), bind_s, bind_s, e2, am126 hM (by omega), bind_s, hP k (by omega), hR k (by omega), cmp_ne0]
        by_cases he : P (cd k) = R (cd k)
        · rw [decide_eq_true he] at hi
          rw [decide_eq_false (not_not_intro he), cnd_f]
          refine (b172_52 hG ..).trans ?_
          rw [show zi k + 1 = zi (k + 1) from zi_add k 1]
          exact hi
        · rw [decide_eq_false he] at hi
          rw [decide_eq_true he, cnd_t]
          refine (b172_51 hG ..).trans ((b172_52 hG ..).trans ?_)
          rw [show zi k + 1 = zi (k + 1) from zi_add k 1]
          exact hi
  refine (b172_0 hG ..).trans ?_
  exact L 252 0 (by omega)
theorem m171 {G : AG} (hG : FIX G) {s : Nat → Nat × Nat} {mr : Nat → Nat → Nat} (hM : MS s mr) {n : Nat × Nat} {Q : Pg} (hW : WP Q) {mi : Nat → Nat → Int32} {ml : Nat → Nat → Int64} (hQ : mdQ Q mi) (hT : MTab mi) (hK : MKn Q mi ml) (x : Int32) :
    ∃ mi' ml', G 171 0 [some (.inr (.inr 114)), some (.inl x), none] [] (s, n, mi, ml, mr) = some (some (.inl (rSure Q x)), (s, n, mi', ml', mr)) ∧ MKn Q mi' ml' ∧ KF mi mi' ∧ LF ml ml' := by
  have h8 : qc Q ≤ 8 := hW.1
  unfold rSure
  cases hx : isN x (qc Q)
  · refine ⟨mi, ml, ?_, hK, KF_refl _, LF_refl _⟩
    refine (b171_0 hG ..).trans ?_
    rw [km hM, Nat.beq_refl, cnd_t, m132 hG hM hQ hW, bind_s, as_I, bind_s, bz_n0, hx, cnd_f]
    rfl
  · have hx' := hx
    obtain ⟨r, hr, hr31, rfl⟩ := isN_t hx
    obtain ⟨m1, l1, e1, a1, b1, c1, d1⟩ := m152 hG hM (n := n) (sd := 0) hW hr (by decide) hQ hT hK
    obtain ⟨m2, l2, e2, a2, b2, c2, d2⟩ := m152 hG hM (n := n) (sd := 1) hW hr (by decide) (mdQ_KF hQ b1) (MTab_KF hT b1) ⟨true, d1, fun _ => a1⟩
    rw [zi_cl hr31, cnd_t]
    have st : G 171 0 [some (.inr (.inr 114)), some (.inl (zi r)), none] [] (s, n, mi, ml, mr) = bif decide (rFus Q 0 r ≠ 0) then G 171 32 [some (.inr (.inr 114)), some (.inl (zi r)), some (.inl (rFus Q 0 r))] [.inl (rFus Q 0 r)] (s, n, m1, l1, mr) else G 171 32 [some (.inr (.inr 114)), some (.inl (zi r)), some (.inl (rFus Q 0 r))] [.inl (rFus Q 1 r)] (s, n, m2, l2, mr) := by
      refine (b171_0 hG ..).trans ?_
      rw [km hM, Nat.beq_refl, cnd_t, m132 hG hM hQ hW, bind_s, as_I, bind_s, bz_n0, hx', cnd_t, km hM, Nat.beq_refl, cnd_t, show (0 : Int32) = zi 0 from rfl, e1, bind_s, as_I, bind_s, km hM, Nat.beq_refl, cnd_t, show (1 : Int32) = zi 1 from rfl, e2, bind_s, as_I, bind_s]
    have e32 : ∀ (y z : Int32) (H : Hp), y ≠ 0 → G 171 32 [some (.inr (.inr 114)), some (.inl (zi r)), some (.inl z)] [.inl y] H = some (some (.inl y), H) := by
      intro y z H hy
      refine (b171_32 hG ..).trans ?_
      rw [decide_eq_false hy, cnd_f]
      exact b171_54 hG ..
    rw [st]
    unfold rFus
    cases hw : whl Q r
    · refine ⟨m1, l1, ?_, ⟨true, d1, fun _ => a1⟩, b1, c1⟩
      rw [cnd_f, cnd_f, cnd_f, show decide ((-1000002 : Int32) ≠ 0) = true from by decide, cnd_t]
      exact e32 _ _ _ (by decide)
    · cases h0 : fml Q 0 r with
      | none =>
        refine ⟨m1, l1, ?_, ⟨true, d1, fun _ => a1⟩, b1, c1⟩
        exact e32 _ _ _ (by decide)
      | some P =>
        refine ⟨m2, l2, ?_, ⟨true, d2, fun _ => a2⟩, KF_trans b1 b2, LF_trans c1 c2⟩
        cases h1 : fml Q 1 r with
        | none => exact e32 _ _ _ (by decide)
        | some R =>
          obtain ⟨v0, -⟩ := fml_ok hW (by omega) hw h0
          obtain ⟨v1, -⟩ := fml_ok hW (by omega) hw h1
          have hP := ((a2 r hr).2.2 0 (by decide)).2 hw P h0
          have hR := ((a2 r hr).2.2 1 (by decide)).2 hw R h1
          rw [srB_some hw h0 h1, ← sma_sme v0 v1]
          rw [Option.isSome_some, Option.isSome_some, Bool.and_self]
          repeat rw [cnd_t]
          rw [show decide ((0 : Int32) ≠ 0) = false from by decide, cnd_f]
          refine (b171_32 hG ..).trans ?_
          rw [decide_eq_true rfl, cnd_t, km hM, Nat.beq_refl, cnd_t, m172 hG hM (by omega) hP hR, bind_s, as_I, bind_s, bz_0]
          cases sma P R 252
          · exact b171_54 hG ..
          · exact b171_54 hG ..
theorem c106 {G : AG} (hG : FIX G) {s : Nat → Nat × Nat} {mr : Nat → Nat → Nat} (hC : CS s mr) {n : Nat × Nat} {mi : Nat → Nat → Int32} {ml : Nat → Nat → Int64} {r : Nat} {P R : Po} (hr : r < 8) (hP : CF (46 + 9 * r + 0) P ml) (hR : CF (46 + 9 * r + 1) R ml) : G 106 0 [some (.inr (.inr (42 + 9 * r))), none] [] (s, n, mi, ml, mr) = some (some (.inl (bz (sme P R 36))), (s, n, mi, ml, mr)) := by
  have hs0 := csF hG hC (sd := 0) hr (by decide)
  have hs1 := csF hG hC (sd := 1) hr (by decide)
  have L : ∀ (f k : Nat), k + f = 36 → sme P R k = true → G 106 2 [some (.inr (.inr (42 + 9 * r))), some (.inl (zi k))] [] (s, n, mi, ml, mr) = some (some (.inl (bz (sme P R 36))), (s, n, mi, ml, mr)) := by
    intro f
    induction f with
    | zero =>
      intro k hk ha
      have e : k = 36 := by omega
      subst e
      refine (b106_2 hG ..).trans ?_
      rw [show decide ((36 : Int32) ≤ zi 36) = true from by decide, cnd_t, ha]; rfl
    | succ f ih =>
      intro k hk ha
      have hk' : k < 36 := by omega
      refine (b106_2 hG ..).trans ?_
      have c0 : decide ((36 : Int32) ≤ zi k) = false := decide_eq_false (by show ¬ zi 36 ≤ zi k; rw [zi_le (by omega) (by omega)]; omega)
      rw [c0, cnd_f, gc27 hC hr, bind_s, show (0 : Int32) = zi 0 from rfl, ac45 hC hr (by decide), bind_s, raJ hs0 hk' (by decide), bind_s, bind_s, show (1 : Int32) = zi 1 from rfl, ac45 hC hr (by decide), bind_s, raJ hs1 hk' (by decide), bind_s, hP k hk', hR k hk', show zi 0 = (0 : Int32) from rfl, cmp_eq0]
      by_cases he : F36 P k = F36 R k
      · rw [decide_eq_true he, cnd_t, zi_add]
        exact ih (k + 1) (by omega) (by rw [sme_S, ha, decide_eq_true he]; rfl)
      · have h0 : sme P R (k + 1) = false := by rw [sme_S, decide_eq_false he, Bool.and_false]
        have := sme_mono h0 f
        rw [show k + 1 + f = 36 by omega] at this
        rw [decide_eq_false he, cnd_f, this]; rfl
  refine (b106_0 hG ..).trans ?_
  exact L 36 0 (by omega) rfl
theorem KS_some {G : AG} (hG : FIX G) {s : Nat → Nat × Nat} {mr : Nat → Nat → Nat} (hC : CS s mr) {mi : Nat → Nat → Int32} {ml : Nat → Nat → Int64} {sd r : Nat} {P : Po} (h : KS mi ml sd r (some P)) : CF (46 + 9 * r + sd) P ml := by
  rcases h with ⟨g, -⟩ | ⟨W, g1, g2, g3, g4⟩
  · cases g
  · cases g1; exact g3
/-- both sides reckoned -/
theorem c67b {G : AG} (hG : FIX G) {s : Nat → Nat × Nat} {mr : Nat → Nat → Nat} (hC : CS s mr) {n : Nat × Nat} {Q : Pg} {N : Nat} (hW : WP Q) {r : Nat} (hr : r < 8) {mi : Nat → Nat → Int32} {ml : Nat → Nat → Int64} (hT : CTab mi) (hQ : CQ Q N s mi mr) (hK : CK Q mi ml) :
    ∃ m1 l1 m2 l2, G 67 0 [some (.inr (.inr 4)), some (.inr (.inr (42 + 9 * r))), some (.inl (zi 0)), none, none, none] [] (s, n, mi, ml, mr) = some (some (.inl (rFus Q 0 r)), (s, n, m1, l1, mr)) ∧ G 67 0 [some (.inr (.inr 4)), some (.inr (.inr (42 + 9 * r))), some (.inl (zi 1)), none, none, none] [] (s, n, m1, l1, mr) = some (some (.inl (rFus Q 1 r)), (s, n, m2, l2, mr)) ∧ CK Q m1 l1 ∧ CFr mi m1 ml l1 ∧ CK Q m2 l2 ∧ CFr mi m2 ml l2 ∧ (whl Q r = true → KS m2 l2 0 r (fml Q 0 r) ∧ KS m2 l2 1 r (fml Q 1 r)) := by
  obtain ⟨m1, l1, e1, z1, z2, z3, -⟩ := c67 hG hC (n := n) (sd := 0) hW hr (by decide) hT hQ hK
  obtain ⟨m2, l2, e2, y1, y2, y3, y4⟩ := c67 hG hC (n := n) (sd := 1) hW hr (by decide) (CTab_CFr hT z3) (CQ_CFr hQ hW z3) z1
  exact ⟨m1, l1, m2, l2, e1, e2, z1, z3, y1, CFr_trans z3 y3, fun hw => ⟨y4 0 (by decide) (by decide) r _ (z2 hw), y2 hw⟩⟩
theorem c105 {G : AG} (hG : FIX G) {s : Nat → Nat × Nat} {mr : Nat → Nat → Nat} (hC : CS s mr) {n : Nat × Nat} {Q : Pg} {N : Nat} (hW : WP Q) {mi : Nat → Nat → Int32} {ml : Nat → Nat → Int64} (hT : CTab mi) (hQ : CQ Q N s mi mr) (hK : CK Q mi ml) (x : Int32) :
    ∃ mi' ml', G 105 0 [some (.inr (.inr 4)), some (.inl x), none, none] [] (s, n, mi, ml, mr) = some (some (.inl (rSure Q x)), (s, n, mi', ml', mr)) ∧ CK Q mi' ml' ∧ CFr mi mi' ml ml' := by
  have h8 : qc Q ≤ 8 := hW.1
  have hb11 : Nat.beq (s 4).1 11 = true := by rw [kc4 hC]; rfl
  unfold rSure
  cases hx : isN x (qc Q)
  · refine ⟨mi, ml, ?_, hK, CFr_refl _ _⟩
    refine (b105_0 hG ..).trans ?_
    rw [hb11, cnd_t, c15_f hG hC hQ.1 h8 hx, bind_s, as_R, bind_s, Nat.beq_refl, Bool.not_true, cnd_f]
    rfl
  · obtain ⟨r, hr, hr31, rfl⟩ := isN_t hx
    have hn0 : Nat.beq (42 + 9 * r) 0 = false := nbeq_f (by omega)
    have hb7 : Nat.beq (s (42 + 9 * r)).1 7 = true := by rw [kc42 hC (by omega)]; rfl
    obtain ⟨m1, l1, m2, l2, e1, e2, -, -, z1, z2, z3⟩ := c67b hG hC (n := n) hW (by omega : r < 8) hT hQ hK
    refine ⟨m2, l2, ?_, z1, z2⟩
    rw [zi_cl hr31, cnd_t]
    have st : G 105 0 [some (.inr (.inr 4)), some (.inl (zi r)), none, none] [] (s, n, mi, ml, mr) = bif decide (0 ≤ (if rFus Q 1 r < rFus Q 0 r then rFus Q 1 r else rFus Q 0 r)) then (G 106 0 [some (.inr (.inr (42 + 9 * r))), none] [] (s, n, m2, l2, mr)).bind fun u7 => (asI u7.1).bind fun i8 => bif decide ((i8 : Int32) = 0) then G 105 47 [some (.inr (.inr 4)), some (.inl (zi r)), some (.inr (.inr (42 + 9 * r))), some (.inl (if rFus Q 1 r < rFus Q 0 r then rFus Q 1 r else rFus Q 0 r))] [.inl 0] u7.2 else G 105 47 [some (.inr (.inr 4)), some (.inl (zi r)), some (.inr (.inr (42 + 9 * r))), some (.inl (if rFus Q 1 r < rFus Q 0 r then rFus Q 1 r else rFus Q 0 r))] [.inl 1] u7.2 else some (some (.inl (if rFus Q 1 r < rFus Q 0 r then rFus Q 1 r else rFus Q 0 r)), (s, n, m2, l2, mr)) := by
      refine (b105_0 hG ..).trans ?_
      simp only [zi_lit, hb11, cnd_t, c15_t hG hC hQ.1 h8 hr, bind_s, as_R, hn0, Bool.not_false, e1, as_I, e2, hb7]
    rw [st]
    unfold rFus
    cases hw : whl Q r
    · rfl
    · cases h0 : fml Q 0 r with
      | none =>
        cases h1 : fml Q 1 r with
        | none => rfl
        | some R => rfl
      | some P =>
        cases h1 : fml Q 1 r with
        | none => rfl
        | some R =>
          obtain ⟨k0, k1⟩ := z3 hw
          rw [h0] at k0
          rw [h1] at k1
          rw [srB_some hw h0 h1]
          rw [Option.isSome_some, Option.isSome_some, Bool.and_self]
          repeat rw [cnd_t]
          rw [show decide ((0 : Int32) ≤ if (0 : Int32) < 0 then 0 else 0) = true from by decide, cnd_t, c106 hG hC (by omega) (KS_some hG hC k0) (KS_some hG hC k1), bind_s, as_I, bind_s, bz_0]
          cases sme P R 36
          · exact b105_47 hG ..
          · exact b105_47 hG ..