/-! the law: what an op does to a program; what is held -/
def AGQ (r : Nat) (Q Q' : Pg) : Prop := ∀ b, b ≠ r → qn Q' b = qn Q b ∧ qk Q' b = qk Q b ∧ qw Q' b = qw Q b ∧ qd Q' b = qd Q b ∧ qt Q' b = qt Q b
theorem AGQ_refl (r Q) : AGQ r Q Q := fun _ _ => ⟨rfl, rfl, rfl, rfl, rfl⟩
theorem AGQ_psh {Q : Pg} {r k w d : Nat} {t : Nat → Nat} : AGQ r Q (psh Q r k w d t) := fun b hb => ⟨up1_n _ _ hb, up2_n _ _ hb, up2_n _ _ hb, up2_n _ _ hb, up2_n _ _ hb⟩
theorem AGQ_pop {Q : Pg} {r : Nat} : AGQ r Q (pop Q r) := fun b hb => ⟨up1_n _ _ hb, rfl, rfl, rfl, rfl⟩
theorem rws_ag {Q Q' : Pg} {F : Nat → Option Po} {sd m : Nat} (h2 : qk Q' m = qk Q m) (h3 : qw Q' m = qw Q m) (h4 : qd Q' m = qd Q m) (h5 : qt Q' m = qt Q m) : ∀ p, rws Q' F sd m p = rws Q F sd m p
  | 0 => rfl
  | p + 1 => by
    show (rws Q' F sd m p).bind (sfp sd (qk Q' m p) (qw Q' m p) (qt Q' m p) (qt Q' m (hdp (stk (qk Q' m) p))) (F (qd Q' m p)) (lps (stk (qk Q' m) p))) = (rws Q F sd m p).bind (sfp sd (qk Q m p) (qw Q m p) (qt Q m p) (qt Q m (hdp (stk (qk Q m) p))) (F (qd Q m p)) (lps (stk (qk Q m) p)))
    rw [rws_ag h2 h3 h4 h5 p, h2, h3, h4, h5]
theorem fmn_ag {Q Q' : Pg} {sd r : Nat} (h : AGQ r Q Q') : ∀ m, m ≤ r → fmn Q' sd m = fmn Q sd m
  | 0, _ => rfl
  | m + 1, hm => by
    obtain ⟨h1, h2, h3, h4, h5⟩ := h m (by omega)
    funext b
    rw [fmn_S, fmn_S, fmn_ag h m (by omega), h1, rws_ag h2 h3 h4 h5]
theorem fml_ag {Q Q' : Pg} {sd r b : Nat} (h : AGQ r Q Q') (hb : b < r) (hr : r < 8) : fml Q' sd b = fml Q sd b := by
  unfold fml
  rw [fmn_le (by omega : b < 8), fmn_le (by omega : b < 8), fmn_ag h (b + 1) hb]
theorem cm_ok {Q : Pg} {r k w d : Nat} {t : Nat → Nat} (hW : WP Q) (hr : r < qc Q) (hk : okc k (stk (qk Q r) (qn Q r))) (hw : k = 1 → 1 ≤ w ∧ w ≤ 99) (hd : k = 4 → d < r) (ht : ∀ q, t q ≤ 2) : WP (cm Q r k w d t).2 ∧ AGQ r Q (cm Q r k w d t).2 := by
  unfold cm
  have h24 : qn Q r ≤ 24 := hW.2.1 r
  by_cases h : qn Q r = 24
  · rw [if_pos h]; exact ⟨hW, AGQ_refl _ _⟩
  · rw [if_neg h]; exact ⟨WP_psh hW hr (by omega) hk hw hd ht, AGQ_psh⟩
theorem opWork_ok {Q : Pg} {t : Nat → Nat} (hW : WP Q) (ht : ∀ q, t q ≤ 2) (x c : Int32) : WP (opWork Q x c t).2 ∧ AGQ x.toNatClampNeg Q (opWork Q x c t).2 := by
  unfold opWork
  cases hb : (isN x (qc Q) && isB c 1 99)
  · exact ⟨hW, AGQ_refl _ _⟩
  · simp only [Bool.and_eq_true] at hb
    obtain ⟨r, hr, hr31, rfl⟩ := isN_t hb.1
    obtain ⟨w, hw1, hw2, rfl⟩ := isB_t hb.2 (by decide)
    rw [zi_cl hr31, zi_cl (by omega), cnd_t]
    exact cm_ok hW hr (Or.inl rfl) (fun _ => ⟨hw1, hw2⟩) (fun h => by omega) ht
theorem opLoop_ok {Q : Pg} {t : Nat → Nat} (hW : WP Q) (ht : ∀ q, t q ≤ 2) (x : Int32) : WP (opLoop Q x t).2 ∧ AGQ x.toNatClampNeg Q (opLoop Q x t).2 := by
  unfold opLoop
  cases hb : isN x (qc Q)
  · exact ⟨hW, AGQ_refl _ _⟩
  · obtain ⟨r, hr, hr31, rfl⟩ := isN_t hb
    rw [zi_cl hr31, cnd_t]
    have h3 := lps_3 (hW.2.2.2.1 r)
    by_cases h : lps (stk (qk Q r) (qn Q r)) = 3
    · rw [if_pos h]; exact ⟨hW, AGQ_refl _ _⟩
    · rw [if_neg h]
      exact cm_ok hW hr (Or.inr (Or.inl ⟨rfl, by omega⟩)) (fun h => by omega) (fun h => by omega) ht
theorem opCall_ok {Q : Pg} {t : Nat → Nat} (hW : WP Q) (ht : ∀ q, t q ≤ 2) (x y : Int32) : WP (opCall Q x y t).2 ∧ AGQ x.toNatClampNeg Q (opCall Q x y t).2 := by
  unfold opCall
  cases hb : (isN x (qc Q) && isN y x.toNatClampNeg)
  · exact ⟨hW, AGQ_refl _ _⟩
  · simp only [Bool.and_eq_true] at hb
    obtain ⟨r, hr, hr31, rfl⟩ := isN_t hb.1
    obtain ⟨d, hd, hd31, rfl⟩ := isN_t hb.2
    rw [zi_cl hr31] at hd
    rw [zi_cl hr31, zi_cl hd31, cnd_t]
    exact cm_ok hW hr (Or.inr (Or.inr (Or.inl rfl))) (fun h => by omega) (fun _ => hd) ht
theorem opEith_ok {Q : Pg} {t : Nat → Nat} (hW : WP Q) (ht : ∀ q, t q ≤ 2) (x : Int32) : WP (opEith Q x t).2 ∧ AGQ x.toNatClampNeg Q (opEith Q x t).2 := by
  unfold opEith
  cases hb : isN x (qc Q)
  · exact ⟨hW, AGQ_refl _ _⟩
  · obtain ⟨r, hr, hr31, rfl⟩ := isN_t hb
    rw [zi_cl hr31, cnd_t]
    exact cm_ok hW hr (Or.inr (Or.inr (Or.inr (Or.inl rfl)))) (fun h => by omega) (fun h => by omega) ht
theorem opClose_ok {Q : Pg} {t : Nat → Nat} (hW : WP Q) (ht : ∀ q, t q ≤ 2) (x y : Int32) : WP (opClose Q x y t).2 ∧ AGQ x.toNatClampNeg Q (opClose Q x y t).2 := by
  unfold opClose
  cases hb : (isN x (qc Q) && isB y 6 8)
  · exact ⟨hW, AGQ_refl _ _⟩
  · simp only [Bool.and_eq_true] at hb
    obtain ⟨r, hr, hr31, rfl⟩ := isN_t hb.1
    obtain ⟨k, hk1, hk2, rfl⟩ := isB_t hb.2 (by decide)
    rw [zi_cl hr31, zi_cl (by omega), cnd_t]
    cases hc : clo (stk (qk Q r) (qn Q r)) k
    · exact ⟨hW, AGQ_refl _ _⟩
    · rw [cnd_t]
      refine cm_ok hW hr ?_ (fun h => by omega) (fun h => by omega) ht
      unfold clo at hc
      cases hS : stk (qk Q r) (qn Q r) with
      | nil => rw [hS] at hc; cases hc
      | cons q T =>
        rw [hS] at hc
        have hq : q.2 + 6 = k := of_decide_eq_true hc
        obtain ⟨q1, q2⟩ := q
        have hk3 : k = 6 ∨ k = 7 ∨ k = 8 := by omega
        rcases hk3 with rfl | rfl | rfl
        · have : q2 = 0 := by have : q2 + 6 = 6 := hq; omega
          subst this
          exact Or.inr (Or.inr (Or.inr (Or.inr (Or.inl ⟨rfl, q1, T, rfl⟩))))
        · have : q2 = 1 := by have : q2 + 6 = 7 := hq; omega
          subst this
          exact Or.inr (Or.inr (Or.inr (Or.inr (Or.inr (Or.inl ⟨rfl, q1, T, rfl⟩)))))
        · have : q2 = 2 := by have : q2 + 6 = 8 := hq; omega
          subst this
          exact Or.inr (Or.inr (Or.inr (Or.inr (Or.inr (Or.inr ⟨rfl, q1, T, rfl⟩)))))
theorem opBack_ok {Q : Pg} (hW : WP Q) (x : Int32) : WP (opBack Q x).2 ∧ AGQ x.toNatClampNeg Q (opBack Q x).2 := by
  unfold opBack
  cases hb : isN x (qc Q)
  · exact ⟨hW, AGQ_refl _ _⟩
  · obtain ⟨r, hr, hr31, rfl⟩ := isN_t hb
    rw [zi_cl hr31, cnd_t]
    by_cases h : qn Q r = 0
    · rw [if_pos h]; exact ⟨hW, AGQ_refl _ _⟩
    · rw [if_neg h]; exact ⟨WP_pop hW (by omega), AGQ_pop⟩
theorem opRt_ok {Q : Pg} (hW : WP Q) : WP (opRt Q).2 := by
  unfold opRt
  have h8 : qc Q ≤ 8 := hW.1
  by_cases h : qc Q = 8
  · rw [if_pos h]; exact hW
  · rw [if_neg h]
    exact ⟨by show qc Q + 1 ≤ 8; omega, hW.2.1, fun r hr => hW.2.2.1 r (by have : qc Q + 1 ≤ r := hr; omega), hW.2.2.2⟩
theorem opX_ok {x : Nat → Nat} (hx : ∀ q, x q ≤ 2) (w c a0 a1 a2 a3 a4 : Int32) : ∀ q, (opX x w c a0 a1 a2 a3 a4).2 q ≤ 2 := by
  unfold opX
  cases hb : okX w c a0 a1 a2 a3 a4
  · exact hx
  · unfold okX at hb
    simp only [Bool.and_eq_true] at hb
    obtain ⟨h0, h1, h2, h3, h4, h5, h6⟩ := hb
    obtain ⟨w', hw, hw31, rfl⟩ := isN_t h0
    obtain ⟨c', hc, hc31, rfl⟩ := isN_t h1
    obtain ⟨b0, hb0, hb031, rfl⟩ := isN_t h2
    obtain ⟨b1, hb1, hb131, rfl⟩ := isN_t h3
    obtain ⟨b2, hb2, hb231, rfl⟩ := isN_t h4
    obtain ⟨b3, hb3, hb331, rfl⟩ := isN_t h5
    obtain ⟨b4, hb4, hb431, rfl⟩ := isN_t h6
    rw [zi_cl hw31, zi_cl hc31, zi_cl hb031, zi_cl hb131, zi_cl hb231, zi_cl hb331, zi_cl hb431, cnd_t]
    intro q
    show nwX x w' c' b0 b1 b2 b3 b4 q ≤ 2
    unfold nwX
    have u : ∀ (f : Nat → Nat) (k v : Nat), v ≤ 2 → f q ≤ 2 → up1 f k v q ≤ 2 := fun f k v hv hf => by
      by_cases e : q = k
      · rw [e, up1_s]; exact hv
      · rw [up1_n _ _ e]; exact hf
    exact u _ _ _ (by omega) (u _ _ _ (by omega) (u _ _ _ (by omega) (u _ _ _ (by omega) (u _ _ _ (by omega) (u _ _ _ (by omega) (hx q))))))
abbrev Tr : Type := Nat × (Nat → Int32)
def CLw (Q : Pg) (x : Nat → Nat) (t : Tr) (z : Int32) (H : Hp) : Prop := CS H.1 H.2.2.2.2 ∧ CQH Q H ∧ clX x H.2.2.1 ∧ clT t H.2.2.1 ∧ CTab H.2.2.1 ∧ CK Q H.2.2.1 H.2.2.2.1 ∧ H.2.2.1 41 33 = z
def MDw (Q : Pg) (x : Nat → Nat) (t : Tr) (z : Int32) (H : Hp) : Prop := MS H.1 H.2.2.2.2 ∧ mdQ Q H.2.2.1 ∧ MX x H.2.2.1 ∧ MTp t H.2.2.1 ∧ MTab H.2.2.1 ∧ MKn Q H.2.2.1 H.2.2.2.1 ∧ H.2.2.1 114 57 = z
def FCw (H H' : Hp) : Prop := (∀ a, a < 142 → H'.1 a = H.1 a) ∧ H'.2.2.1 1 = H.2.2.1 1 ∧ (∀ a, 114 ≤ a → a < 142 → H'.2.2.1 a = H.2.2.1 a ∧ H'.2.2.2.1 a = H.2.2.2.1 a) ∧ (∀ f, H'.2.2.2.2 114 f = H.2.2.2.2 114 f) ∧ H.2.1.1 ≤ H'.2.1.1 ∧ H'.2.1.1 ≤ H.2.1.1 + 3 ∧ H'.2.1.2 ≤ H.2.1.2 + 40
def FMw (H H' : Hp) : Prop := H'.1 = H.1 ∧ H'.2.1 = H.2.1 ∧ H'.2.2.2.2 = H.2.2.2.2 ∧ (∀ a, a < 114 ∨ 142 ≤ a → H'.2.2.1 a = H.2.2.1 a) ∧ (∀ a, a < 114 → H'.2.2.2.1 a = H.2.2.2.1 a)
theorem FCw_refl (H) : FCw H H := ⟨fun _ _ => rfl, rfl, fun _ _ _ => ⟨rfl, rfl⟩, fun _ => rfl, Nat.le_refl _, by omega, by omega⟩
theorem FMw_refl (H) : FMw H H := ⟨rfl, rfl, rfl, fun _ _ => rfl, fun _ _ => rfl⟩
theorem KN_o {Q : Pg} {m : Nat} {mi mi' ml ml'} (h : KN Q m mi ml) (e1 : mi' 127 = mi 127) (e2 : mi' 128 = mi 128) (e3 : mi' 129 = mi 129) (e4 : ml' 126 = ml 126) : KN Q m mi' ml' := fun r hr => KN1_mv (h r hr) (by rw [e2]) (by rw [e1]) (fun sd _ => by rw [e3]) (fun x _ _ => by rw [e4])
theorem MDw_FC {Q x t z} {H H' : Hp} (h : MDw Q x t z H) (hf : FCw H H') : MDw Q x t z H' := by
  obtain ⟨h1, h2, h3, h4, h5, ⟨b, h6, h7⟩, h8⟩ := h
  obtain ⟨f1, -, f2, f3, -⟩ := hf
  have g := fun a h1 h2 => (f2 a h1 h2).1
  have e114 := g 114 (by decide) (by decide)
  refine ⟨MS_ext h1 f1 f3, ?_, ?_, ?_, ?_, ⟨b, ?_, fun hb => KN_o (h7 hb) (g 127 (by decide) (by decide)) (g 128 (by decide) (by decide)) (g 129 (by decide) (by decide)) (f2 126 (by decide) (by decide)).2⟩, ?_⟩
  · unfold mdQ
    rw [e114, g 115 (by decide) (by decide), g 116 (by decide) (by decide), g 117 (by decide) (by decide), g 118 (by decide) (by decide), g 119 (by decide) (by decide)]
    exact h2
  · unfold MX
    rw [g 120 (by decide) (by decide)]; exact h3
  · show MT t.1 t.2 H'.2.2.1
    unfold MT
    rw [e114, g 121 (by decide) (by decide)]; exact h4
  · unfold MTab
    rw [g 122 (by decide) (by decide), g 123 (by decide) (by decide), g 132 (by decide) (by decide)]; exact h5
  · rw [e114]; exact h6
  · rw [e114]; exact h8
theorem CTab_o {mi mi' : Nat → Nat → Int32} (h : CTab mi) (e : ∀ a, a = 2 ∨ a = 3 ∨ (13 ≤ a ∧ a ≤ 18) → mi' a = mi a) : CTab mi' := by
  obtain ⟨h1, h2, h3, h4⟩ := h
  exact ⟨fun v p hv hp => by rw [e _ (by omega)]; exact h1 v p hv hp, fun p hp => by rw [e _ (by omega)]; exact h2 p hp, fun j hj => by rw [e _ (by omega)]; exact h3 j hj, fun j hj => by rw [e _ (by omega)]; exact h4 j hj⟩
theorem KS_o {mi mi' : Nat → Nat → Int32} {ml ml' : Nat → Nat → Int64} {sd r F} (h : KS mi ml sd r F) (e1 : mi' (48 + 9 * r) = mi (48 + 9 * r)) (e2 : ml' (46 + 9 * r + sd) = ml (46 + 9 * r + sd)) : KS mi' ml' sd r F := by
  unfold KS CF at h ⊢
  rw [e1, e2]
  exact h
theorem CK_o {Q : Pg} {mi mi' : Nat → Nat → Int32} {ml ml' : Nat → Nat → Int64} (h : CK Q mi ml) (e1 : ∀ r, r < 8 → mi' (48 + 9 * r) = mi (48 + 9 * r)) (e2 : ∀ r, r < 8 → ∀ sd, sd < 2 → ml' (46 + 9 * r + sd) = ml (46 + 9 * r + sd)) : CK Q mi' ml' := fun r hr sd hs => by
  rcases h r hr sd hs with h | h
  · left; rw [e1 r hr]; exact h
  · right; exact KS_o h (e1 r hr) (e2 r hr sd hs)
theorem CLw_FM {Q x t z} {H H' : Hp} (hW : WP Q) (h : CLw Q x t z H) (hf : FMw H H') : CLw Q x t z H' := by
  obtain ⟨h1, h2, h3, h4, h5, h6, h7⟩ := h
  obtain ⟨f1, f2, f3, f4, f5⟩ := hf
  have g := fun a h => f4 a (Or.inl h)
  refine ⟨by rw [f1, f3]; exact h1, ?_, ?_, ?_, CTab_o h5 (fun a ha => g a (by omega)), CK_o h6 (fun r hr => g _ (by omega)) (fun r hr sd hs => f5 _ (by omega)), by rw [g 41 (by decide)]; exact h7⟩
  · unfold CQH
    rw [f1, f2, f3]
    exact CQ_i h2 hW (fun a ha => f4 a (by
      rcases ha with rfl | ⟨r, hr, h | h⟩ | h <;> omega))
  · unfold clX
    rw [g 6 (by decide), g 7 (by decide)]; exact h3
  · unfold clT
    rw [g 8 (by decide), g 9 (by decide)]; exact h4
/-- an op has come or gone in the class -/
theorem CLw_New {Q Q' : Pg} {x t z} {r : Nat} {H H' : Hp} (h : CLw Q x t z H) (hq : CQH Q' H') (hn : CNew r H H') (hr : r < 8) (hc : CS H'.1 H'.2.2.2.2) (ha : AGQ r Q Q') : CLw Q' x t z H' ∧ FCw H H' := by
  obtain ⟨h1, h2, h3, h4, h5, h6, h7⟩ := h
  obtain ⟨n1, n2, n3, n4, n5, n6, n7, n8, n9⟩ := hn
  have g : ∀ a, a < 42 ∨ (114 ≤ a ∧ a < 142) → H'.2.2.1 a = H.2.2.1 a := fun a ha => n5 a (by omega) (fun b _ _ => by omega) (by omega) (by omega)
  refine ⟨⟨hc, hq, ?_, ?_, CTab_o h5 (fun a ha => g a (by omega)), fun b hb sd hs => ?_, by rw [g 41 (by decide)]; exact h7⟩, n1, g 1 (by decide), fun a h1 h2 => ⟨g a (Or.inr ⟨h1, h2⟩), n8 a h2⟩, fun f => n9 114 f (by decide) (by omega), n2, n3, n4⟩
  · unfold clX
    rw [g 6 (by decide), g 7 (by decide)]; exact h3
  · unfold clT
    rw [g 8 (by decide), g 9 (by decide)]; exact h4
  · by_cases hbr : r ≤ b
    · left
      have hs2 : sd = 0 ∨ sd = 1 := by omega
      rcases hs2 with rfl | rfl
      · exact (n7 b hbr hb).1
      · exact (n7 b hbr hb).2
    · have e1 : H'.2.2.1 (48 + 9 * b) = H.2.2.1 (48 + 9 * b) := n5 _ (by omega) (fun c _ _ => by omega) (by omega) (by omega)
      have e2 : H'.2.2.2.1 (46 + 9 * b + sd) = H.2.2.2.1 (46 + 9 * b + sd) := n8 _ (by omega)
      rw [fml_ag ha (by omega) hr]
      rcases h6 b hb sd hs with h | h
      · left; rw [e1]; exact h
      · right; exact KS_o h e1 e2
