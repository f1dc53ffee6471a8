/-! the model: sumUp -/
def sumS (P : Po) (t : Nat → Nat) (d : Nat) : Po := fun c => sm 252 (fun x => tS P (fun q => zl (t q)) d (2 + d) x c)
def sumF (P : Po) (t : Nat → Nat) (d : Nat) : Po := fun c => sm 252 (fun x => fxS P (t 0) (2 + d) x c)
def sumOk (P : Po) (t : Nat → Nat) (d : Nat) : Bool := aln t (2 + d) || (!h5 P 252 && dv6 (sumS P t d) 252)
def sumR (P : Po) (t : Nat → Nat) (d : Nat) : Po := bif aln t (2 + d) then sumF P t d else fun c => sumS P t d c / 60
theorem m158 {G : AG} (hG : FIX G) {s : Nat → Nat × Nat} {mr : Nat → Nat → Nat} (hM : MS s mr) {n : Nat × Nat} {mi : Nat → Nat → Int32} (hT : MTab mi) {i op d : Nat} {P : Po} {t : Nat → Nat} {ml : Nat → Nat → Int64} (hi : i < 58) (ho : op < 192) (hd : d ≤ 2) (ht : ∀ q, q < 12 → mi 119 (12 * op + q) = zi (t q)) (hb : ∀ q, t q ≤ 2) (hP : MPo i P ml) :
    ∃ ml', G 158 0 [some (.inr (.inr 114)), some (.inl (zi i)), some (.inl (zi op)), some (.inl (zi d)), none, none, none, none, none, none, none, none, none, none, none, none, none, none] [] (s, n, mi, ml, mr) = some (some (.inl (bz (sumOk P t d))), (s, n, mi, ml', mr)) ∧ (sumOk P t d = true → MPo i (sumR P t d) ml') ∧ RG i ml ml' := by
  have hA := m158A hG hM (n := n) (mi := mi) (ml := ml) (y1 := zi i) (y4 := zi (2 + d)) (y5 := zi (6 ^ (2 + d))) ho (by omega : d ≤ 3) (fun q hq => ht q (by omega)) hb (2 + d) 0 (by omega)
  obtain ⟨m1, e1, z1, z2⟩ := m158C hG hM (n := n) (mi := mi) (y1 := zi i) (y2 := zi op) (y3 := zi d) (y4 := zi (2 + d)) (y5 := zi (6 ^ (2 + d))) (y6 := bz (aln t (2 + d))) 252 0 ml (by omega) (fun x hx => by omega)
  have hP1 : MPo i P m1 := MPo_MD hP z2
  have est : G 158 0 [some (.inr (.inr 114)), some (.inl (zi i)), some (.inl (zi op)), some (.inl (zi d)), none, none, none, none, none, none, none, none, none, none, none, none, none, none] [] (s, n, mi, ml, mr) = G 158 64 [some (.inr (.inr 114)), some (.inl (zi i)), some (.inl (zi op)), some (.inl (zi d)), some (.inl (zi (2 + d))), some (.inl (zi (6 ^ (2 + d)))), some (.inl (bz (aln t (2 + d)))), some (.inl (zi 252)), none, none, none, none, none, none, none, none, none, none] [] (s, n, mi, m1, mr) := by
    refine (b158_0 hG ..).trans ?_
    simp (disch := omega) only [zi_lit, zi_add, m159 hG (by omega : 2 + d < 5), bind_s, as_I]
    exact hA.trans e1
  rw [est]
  have hc : decide ((252 : Int32) ≤ zi 252) = true := by decide
  have e64 := b158_64 hG 114 (zi i) (zi op) (zi d) (zi (2 + d)) (zi (6 ^ (2 + d))) (bz (aln t (2 + d))) (zi 252) (s, n, mi, m1, mr)
  rw [hc, cnd_t, bz_0] at e64
  rw [e64]
  unfold sumOk sumR
  cases ha : aln t (2 + d)
  · obtain ⟨m2, e2, z3, z4⟩ := m161 hG hM hT ho (by decide : 0 < 2) (by decide : 58 ≤ 64) (t := t) (fun q hq => by rw [← ht q (by omega)]; exact congrArg _ (by omega)) hb (n := n) (ml := m1) (by omega : d ≤ 3)
    have hP2 : MPo i P m2 := MPo_RF hP1 z4 (by omega)
    have hz2 : ∀ k, k < 252 → m2 130 k = 0 := fun k hk => by rw [z4.2 130 (by decide)]; exact z1 k hk
    have e2' : G 161 0 [some (.inr (.inr 114)), some (.inl 58), some (.inl (zi op)), some (.inl 0), some (.inl (zi d)), none, none, none, none, none, none, none, none] [] (s, n, mi, m1, mr) = some (none, (s, n, mi, m2, mr)) := e2
    have ekm : Nat.beq (s 114).1 12 = true := by rw [km hM]; rfl
    have g1 : RG i ml m2 := RG_trans (RG_MD z2) (RG_RF z4 (by omega))
    rw [ha] at e64
    obtain ⟨m3, r1, r2⟩ := m158K hG hM hT (n := n) (mi := mi) (y2 := zi op) (y3 := zi d) (y6 := bz false) (e := fun q => zl (t q)) hi (by omega : 2 + d < 5) (by omega : d ≤ 3) 252 0 none none none none none none none m2 (by omega) rfl hP2 z3 (fun k hk => by rw [hz2 k hk]; rfl)
    rcases r2 with ⟨h5t, e3⟩ | ⟨h5f, ⟨p8, p10, p11, p12, p13, p15, p16, e3⟩, hm3⟩
    · refine ⟨m3, ?_, fun h => ?_, RG_trans g1 (RG_MD r1)⟩
      · simp only [ekm, e2', cnd_t, bind_s, as_V, Bool.not_false, h5t, Bool.not_true, Bool.false_and, Bool.false_or]
        exact e3
      · rw [h5t] at h; cases h
    · obtain ⟨m4, s1, s2⟩ := m158D hG hM (n := n) (mi := mi) (y1 := zi i) (y2 := zi op) (y3 := zi d) (y4 := zi (2 + d)) (y5 := zi (6 ^ (2 + d))) (y6 := bz false) (o8 := p8) (o10 := p10) (o11 := p11) (o12 := p12) (o13 := p13) (o15 := p15) (o16 := p16) (P := sumS P t d) 252 0 m3 (by omega) rfl (fun x hx => by rw [if_neg (Nat.not_lt_zero _)]; exact hm3 x hx)
      have g2 : RG i ml m4 := RG_trans (RG_trans g1 (RG_MD r1)) (RG_MD s1)
      rcases s2 with ⟨hdf, e4⟩ | ⟨hdt, e4, hm4⟩
      · refine ⟨m4, ?_, fun h => ?_, g2⟩
        · simp only [ekm, e2', cnd_t, bind_s, as_V, Bool.not_false, h5f, hdf, Bool.true_and, Bool.false_or]
          exact e3.trans e4
        · rw [hdf, Bool.and_false] at h; cases h
      · obtain ⟨m5, e5, u1, u2⟩ := m158E hG hM (n := n) (mi := mi) (y2 := zi op) (y3 := zi d) (y4 := zi (2 + d)) (y5 := zi (6 ^ (2 + d))) (y6 := bz false) (o8 := p8) (o10 := p10) (o11 := p11) (o12 := p12) (o13 := p13) (o15 := p15) (o16 := p16) (P := fun c => sumS P t d c / 60) hi 252 0 m4 (by omega) hm4 (fun x hx => by omega)
        refine ⟨m5, ?_, fun _ => u1, RG_trans g2 (RG_row u2)⟩
        simp only [ekm, e2', cnd_t, bind_s, as_V, Bool.not_false, h5f, hdt, Bool.true_and, Bool.false_or]
        exact (e3.trans e4).trans e5
  · obtain ⟨m2, p8, p10, p11, p12, p13, p15, e2, z3, z4⟩ := m158F hG hM hT (n := n) (mi := mi) (y3 := zi d) (y6 := bz true) hi ho (by omega : 2 + d < 5) (ht 0 (by omega)) (hb 0) 252 0 none none none none none none m1 (by omega) hP1 (fun k hk => by rw [z1 k hk]; rfl)
    obtain ⟨m5, e5, u1, u2⟩ := m158E hG hM (n := n) (mi := mi) (y2 := zi op) (y3 := zi d) (y4 := zi (2 + d)) (y5 := zi (6 ^ (2 + d))) (y6 := bz true) (o8 := p8) (o10 := p10) (o11 := p11) (o12 := p12) (o13 := p13) (o15 := p15) (o16 := none) (P := sumF P t d) hi 252 0 m2 (by omega) z3 (fun x hx => by omega)
    refine ⟨m5, ?_, fun _ => u1, RG_trans (RG_trans (RG_MD z2) (RG_MD z4)) (RG_row u2)⟩
    simp only [Bool.not_true, cnd_f, Bool.true_or]
    refine e2.trans ?_
    rw [b158_474 hG]
    exact e5