/-! the model: runs: what is held of a run -/
theorem zl_32 (n : Nat) : (zl n).toInt32 = zi n := Int64.toInt32_ofNat'
def bse (Q : Pg) : List Fr → Nat
  | [] => 0
  | (r, p, _, _, _) :: R => bse Q R + (stk (qk Q r) p).length + 1
def PE (w r b B : Nat) (mi : Nat → Nat → Int32) (ml : Nat → Nat → Int64) : List (Nat × Nat) → List En → Prop
  | (q, 0) :: S, c :: L => (mi 136 (b + S.length) = zi (24 * r + q) ∧ mi 137 (b + S.length) = zi c.1 ∧ mi 138 (b + S.length) = zi c.2) ∧ PE w r b B mi ml S L
  | (q, 1) :: S, c :: L => (mi 136 (b + S.length) = zi (24 * r + q) ∧ (3 ≤ w → ml 139 (b + S.length) = zl (B + sbe S L + c.1)) ∧ (w < 3 → c.1 = 0)) ∧ PE w r b B mi ml S L
  | (q, _) :: S, c :: L => (mi 136 (b + S.length) = zi (24 * r + q) ∧ (3 ≤ w → ml 139 (b + S.length) = zl (B + sbe S L + c.1) ∧ ml 140 (b + S.length) = zl (B + sbe S L + c.1 + c.2)) ∧ (w < 3 → c.1 = 0)) ∧ PE w r b B mi ml S L
  | _, _ => True
theorem PE_0 (w r b B mi ml q S c L) : PE w r b B mi ml ((q, 0) :: S) (c :: L) = ((mi 136 (b + S.length) = zi (24 * r + q) ∧ mi 137 (b + S.length) = zi c.1 ∧ mi 138 (b + S.length) = zi c.2) ∧ PE w r b B mi ml S L) := rfl
theorem PE_1 (w r b B mi ml q S c L) : PE w r b B mi ml ((q, 1) :: S) (c :: L) = ((mi 136 (b + S.length) = zi (24 * r + q) ∧ (3 ≤ w → ml 139 (b + S.length) = zl (B + sbe S L + c.1)) ∧ (w < 3 → c.1 = 0)) ∧ PE w r b B mi ml S L) := rfl
theorem PE_2 (w r b B mi ml q S c L) : PE w r b B mi ml ((q, 2) :: S) (c :: L) = ((mi 136 (b + S.length) = zi (24 * r + q) ∧ (3 ≤ w → ml 139 (b + S.length) = zl (B + sbe S L + c.1) ∧ ml 140 (b + S.length) = zl (B + sbe S L + c.1 + c.2)) ∧ (w < 3 → c.1 = 0)) ∧ PE w r b B mi ml S L) := rfl
def AGr (m : Nat) (mi mi' : Nat → Nat → Int32) (ml ml' : Nat → Nat → Int64) : Prop := (∀ i, i < m → mi' 136 i = mi 136 i ∧ mi' 137 i = mi 137 i ∧ mi' 138 i = mi 138 i ∧ ml' 139 i = ml 139 i ∧ ml' 140 i = ml 140 i) ∧ ∀ i, i < 7 * m → mi' 141 i = mi 141 i
theorem AGr_le {m m' mi mi' ml ml'} (h : AGr m mi mi' ml ml') (hm : m' ≤ m) : AGr m' mi mi' ml ml' := ⟨fun i hi => h.1 i (by omega), fun i hi => h.2 i (by omega)⟩
theorem AGr_o {m mi mi' ml ml'} (h1 : ∀ a, 136 ≤ a → a < 142 → mi' a = mi a) (h2 : ∀ a, 136 ≤ a → a < 142 → ml' a = ml a) : AGr m mi mi' ml ml' := ⟨fun i _ => by rw [h1 136 (by decide) (by decide), h1 137 (by decide) (by decide), h1 138 (by decide) (by decide), h2 139 (by decide) (by decide), h2 140 (by decide) (by decide)]; exact ⟨rfl, rfl, rfl, rfl, rfl⟩, fun i _ => by rw [h1 141 (by decide) (by decide)]⟩
theorem PE_mv {w r b B m : Nat} {mi mi' : Nat → Nat → Int32} {ml ml' : Nat → Nat → Int64} (h : AGr m mi mi' ml ml') : ∀ {S : List (Nat × Nat)} {L : List En}, b + S.length ≤ m → PE w r b B mi ml S L → PE w r b B mi' ml' S L
  | [], _, _, _ => by unfold PE; exact trivial
  | (q, 0) :: S, [], _, _ => by unfold PE; exact trivial
  | (q, 1) :: S, [], _, _ => by unfold PE; exact trivial
  | (q, k + 2) :: S, [], _, _ => by unfold PE; exact trivial
  | (q, 0) :: S, c :: L, hl, hh => by
    rw [List.length_cons] at hl
    unfold PE at hh ⊢
    obtain ⟨h1, h2, h3, -⟩ := h.1 (b + S.length) (by omega)
    exact ⟨⟨h1.trans hh.1.1, h2.trans hh.1.2.1, h3.trans hh.1.2.2⟩, PE_mv h (by omega) hh.2⟩
  | (q, 1) :: S, c :: L, hl, hh => by
    rw [List.length_cons] at hl
    unfold PE at hh ⊢
    obtain ⟨h1, h2, h3, h4, h5⟩ := h.1 (b + S.length) (by omega)
    exact ⟨⟨h1.trans hh.1.1, fun hw => h4.trans (hh.1.2.1 hw), hh.1.2.2⟩, PE_mv h (by omega) hh.2⟩
  | (q, k + 2) :: S, c :: L, hl, hh => by
    rw [List.length_cons] at hl
    unfold PE at hh ⊢
    obtain ⟨h1, h2, h3, h4, h5⟩ := h.1 (b + S.length) (by omega)
    exact ⟨⟨h1.trans hh.1.1, fun hw => ⟨h4.trans (hh.1.2.1 hw).1, h5.trans (hh.1.2.1 hw).2⟩, hh.1.2.2⟩, PE_mv h (by omega) hh.2⟩
def PFs (Q : Pg) (w : Nat) (mi : Nat → Nat → Int32) (ml : Nat → Nat → Int64) : List Fr → Prop
  | [] => True
  | (r, q, y0, y1, L) :: R => PE w r (bse Q R) (bsf Q R) mi ml (stk (qk Q r) q) L ∧ (mi 136 (bse Q R + (stk (qk Q r) q).length) = zi (24 * r + q) ∧ mi 141 (7 * (bse Q R + (stk (qk Q r) q).length)) = zi y0 ∧ mi 141 (7 * (bse Q R + (stk (qk Q r) q).length) + 1) = zi y1 ∧ mi 141 (7 * (bse Q R + (stk (qk Q r) q).length) + 2) = zi (lps (stk (qk Q r) q)) ∧ ∀ j, j < lps (stk (qk Q r) q) → mi 141 (7 * (bse Q R + (stk (qk Q r) q).length) + 3 + j) = zi (cf (stk (qk Q r) q) L j)) ∧ PFs Q w mi ml R
theorem PFs_mv {Q : Pg} {w m : Nat} {mi mi' : Nat → Nat → Int32} {ml ml' : Nat → Nat → Int64} (hW : WP Q) (h : AGr m mi mi' ml ml') : ∀ {R : List Fr}, FsI Q R → bse Q R ≤ m → PFs Q w mi ml R → PFs Q w mi' ml' R
  | [], _, _, _ => trivial
  | (r, q, y0, y1, L) :: R, hi, hm, hh => by
    obtain ⟨⟨i1, i2, i3, i4, i5⟩, -, i7⟩ := hi
    have hm' : bse Q R + (stk (qk Q r) q).length + 1 ≤ m := hm
    have hl3 := lps_3 (WF_le (hW.2.2.2.1 r) i3)
    obtain ⟨h1, ⟨h2, h3, h4, h5, h6⟩, h7⟩ := hh
    exact ⟨PE_mv h (by omega) h1, ⟨(h.1 _ (by omega)).1.trans h2, (h.2 _ (by omega)).trans h3, (h.2 _ (by omega)).trans h4, (h.2 _ (by omega)).trans h5, fun j hj => (h.2 _ (by omega)).trans (h6 j hj)⟩, PFs_mv hW h i7 (by omega) h7⟩
theorem bse_le {Q : Pg} (hW : WP Q) : ∀ {R : List Fr} {r p x0 x1 L}, FsI Q ((r, p, x0, x1, L) :: R) → bse Q R + (stk (qk Q r) p).length ≤ 24 + 25 * (7 - r)
  | [], r, p, _, _, _, h => by
    have h1 := stk_len (qk Q r) p
    have h2 : p ≤ qn Q r := h.1.2.2.1
    have h3 : qn Q r ≤ 24 := hW.2.1 r
    show 0 + _ ≤ _
    omega
  | (r', q', y0, y1, L') :: R', r, p, _, _, _, h => by
    have h1 := stk_len (qk Q r) p
    have h2 : p ≤ qn Q r := h.1.2.2.1
    have h3 : qn Q r ≤ 24 := hW.2.1 r
    obtain ⟨-, ⟨c1, c2, c3⟩, h4⟩ := h
    have hd := hW.2.2.2.2.2.1 r' q' c1 c2
    have h8 : r' < 8 := h4.1.1
    have ih := bse_le hW h4
    show bse Q R' + (stk (qk Q r') q').length + 1 + _ ≤ _
    omega
def RMd (Q : Pg) (w : Nat) (mi : Nat → Nat → Int32) (ml : Nat → Nat → Int64) : Rs → Prop
  | ([], _, _, _) => False
  | ((r, p, x0, x1, L) :: R, sp, k, z) => (mi 114 76 = zi k ∧ ml 114 77 = zl (sp + (sbe (stk (qk Q r) p) L + bsf Q R)) ∧ mi 114 57 = z ∧ mi 114 78 = zi (24 * r + p) ∧ mi 114 79 = zi x0 ∧ mi 114 80 = zi x1 ∧ mi 114 81 = zi (lps (stk (qk Q r) p)) ∧ mi 114 83 = zi (bse Q R + (stk (qk Q r) p).length)) ∧ (∀ j, j < lps (stk (qk Q r) p) → mi 135 j = zi (cf (stk (qk Q r) p) L j)) ∧ PE w r (bse Q R) (bsf Q R) mi ml (stk (qk Q r) p) L ∧ PFs Q w mi ml R
def tpr : Rs → Nat
  | ((r, _, _, _, _) :: _, _) => r
  | _ => 0
def MRf (mi mi' : Nat → Nat → Int32) (ml ml' : Nat → Nat → Int64) : Prop := (∀ a, a ≠ 114 → a < 135 ∨ 142 ≤ a → mi' a = mi a) ∧ (∀ f, f ≠ 57 → f < 76 → mi' 114 f = mi 114 f) ∧ (∀ a, a ≠ 114 → a ≠ 139 → a ≠ 140 → ml' a = ml a)
theorem MRf_refl (mi ml) : MRf mi mi ml ml := ⟨fun _ _ _ => rfl, fun _ _ _ => rfl, fun _ _ _ _ => rfl⟩
theorem MRf_trans {a b c x y z} (h : MRf a b x y) (h' : MRf b c y z) : MRf a c x z := ⟨fun k h1 h2 => (h'.1 k h1 h2).trans (h.1 k h1 h2), fun k h1 h2 => (h'.2.1 k h1 h2).trans (h.2.1 k h1 h2), fun k h1 h2 h3 => (h'.2.2 k h1 h2 h3).trans (h.2.2 k h1 h2 h3)⟩
theorem MRf_f {mi : Nat → Nat → Int32} {ml} {f v} (hf : f = 57 ∨ 76 ≤ f) : MRf mi (up2 mi 114 f v) ml ml := ⟨fun a h _ => up2_n _ _ h, fun g h1 h2 => by rw [up2_s, up1_n _ _ (by omega)], fun _ _ _ _ => rfl⟩
theorem MRf_a {mi : Nat → Nat → Int32} {ml} {a i v} (ha : 135 ≤ a ∧ a < 142) : MRf mi (up2 mi a i v) ml ml := ⟨fun b h1 h2 => up2_n _ _ (by omega), fun g h1 h2 => by rw [up2_n _ _ (by omega)], fun _ _ _ _ => rfl⟩
theorem MRf_l {mi : Nat → Nat → Int32} {ml : Nat → Nat → Int64} {a i v} (ha : a = 114 ∨ a = 139 ∨ a = 140) : MRf mi mi ml (up2 ml a i v) := ⟨fun _ _ _ => rfl, fun _ _ _ => rfl, fun b h1 h2 h3 => up2_n _ _ (by omega)⟩
theorem mdQ_MR {Q : Pg} {mi mi' ml ml'} (hD : mdQ Q mi) (h : MRf mi mi' ml ml') : mdQ Q mi' := by
  unfold mdQ at hD ⊢
  rw [h.2.1 50 (by decide) (by decide), h.1 115 (by decide) (by omega), h.1 116 (by decide) (by omega), h.1 117 (by decide) (by omega), h.1 118 (by decide) (by omega), h.1 119 (by decide) (by omega)]
  exact hD
def PM (G : AG) (s : Nat → Nat × Nat) (n : Nat × Nat) (mr : Nat → Nat → Nat) (a1 a2 a3 : Int32) (Q : Pg) (w : Nat) (mi : Nat → Nat → Int32) (ml : Nat → Nat → Int64) (lhs : RT) : (Int32 × Int32) ⊕ Rs → Prop
  | .inl v => ∃ mi' ml', lhs = some (some (.inl v.1), (s, n, mi', ml', mr)) ∧ mi' 114 57 = v.2 ∧ MRf mi mi' ml ml'
  | .inr B => ∃ mi' ml' o6 o7 o8 o9, lhs = G 174 41 [some (.inr (.inr 114)), some (.inl a1), some (.inl a2), some (.inl a3), some (.inl (zi w)), some (.inl (zi (tpr B))), some (.inl o6), o7, o8, o9] [] (s, n, mi', ml', mr) ∧ RMd Q w mi' ml' B ∧ MRf mi mi' ml ml'
/-- the routine's end -/
theorem m174e {G : AG} (hG : FIX G) {s : Nat → Nat × Nat} {mr : Nat → Nat → Nat} (hM : MS s mr) {n : Nat × Nat} {Q : Pg} {w t r x0 x1 sp k : Nat} {z a1 a2 a3 : Int32} {L : List En} {R : List Fr} {mi : Nat → Nat → Int32} {ml : Nat → Nat → Int64} {o6 o7 o8 o9 : Option AV} (hW : WP Q) (hD : mdQ Q mi) (hI : IA Q t ((r, qn Q r, x0, x1, L) :: R, sp, k, z)) (hR : RMd Q w mi ml ((r, qn Q r, x0, x1, L) :: R, sp, k, z)) :
    PM G s n mr a1 a2 a3 Q w mi ml (G 174 41 [some (.inr (.inr 114)), some (.inl a1), some (.inl a2), some (.inl a3), some (.inl (zi w)), some (.inl (zi r)), o6, o7, o8, o9] [] (s, n, mi, ml, mr)) (stA Q w ((r, qn Q r, x0, x1, L) :: R, sp, k, z)) := by
  have hB := IA_b hI
  have hle := bse_le hW hI.1
  obtain ⟨⟨⟨i1, i2, i3, i4, i5⟩, i6, i7⟩, -, j1, j2, jX, -⟩ := hI
  obtain ⟨⟨g76, g77, g57, g78, g79, g80, g81, g83⟩, f1, f2, f3⟩ := hR
  have hn24 : qn Q r ≤ 24 := hW.2.1 r
  have hnil := whl_nil hW i1 i2
  rw [hnil] at g77 g83
  have h115 := hD.2.1 r i1
  have ix : (24 : Int32) * zi r + zi (qn Q r) = zi (24 * r + qn Q r) := by rw [show (24 : Int32) = zi 24 from rfl, zi_mul, zi_add]
  cases R with
  | nil =>
    rw [stA_0 rfl]
    refine ⟨mi, ml, ?_, g57, MRf_refl _ _⟩
    refine (b174_41 hG ..).trans ?_
    rw [gm78 hM, bind_s, g78, gm51 hM, bind_s, am115 hM i1, bind_s, h115, ix, decide_eq_false (by rw [zi_lt (by omega) (by omega)]; omega : ¬ zi (24 * r + qn Q r) < zi (24 * r + qn Q r)), cnd_f, gm83 hM, bind_s, g83, show decide (zi (bse Q [] + ([] : List (Nat × Nat)).length) ≤ 0) = true from (by decide : decide (zi 0 ≤ 0) = true), cnd_t, gm77 hM, bind_s, g77]
    show some (some (Sum.inl (zl (sp + (sbe [] L + 0))).toInt32), _) = some (some (Sum.inl (zi sp)), _)
    have : sbe [] L = 0 := by unfold sbe; rfl
    rw [this, Nat.add_zero, zl_32]
  | cons f R =>
    obtain ⟨r', q', y0, y1, L'⟩ := f
    rw [stA_0c rfl]
    obtain ⟨c1, c2, c3⟩ := i6
    have r'8 : r' < 8 := i7.1.1
    obtain ⟨e1, ⟨e2, e3, e4, e5, e6⟩, e7⟩ := f3
    have hl3 := lps_3 (WF_le (hW.2.2.2.1 r') i7.1.2.2.1)
    have hle' := bse_le hW i7
    obtain ⟨h, hh⟩ : ∃ h, h = bse Q R + (stk (qk Q r') q').length := ⟨_, rfl⟩
    have hbs : bse Q ((r', q', y0, y1, L') :: R) + ([] : List (Nat × Nat)).length = h + 1 := by rw [hh]; rfl
    rw [hbs] at g83
    rw [← hh] at e2 e3 e4 e5 e6 hle'
    have q24 : q' < 24 := by have : qn Q r' ≤ 24 := hW.2.1 r'; omega
    obtain ⟨m1, hm1⟩ : ∃ m, m = up2 (up2 (up2 (up2 (up2 mi 114 83 (zi h)) 114 78 (zi (24 * r' + (q' + 1)))) 114 79 (zi y0)) 114 80 (zi y1)) 114 81 (zi (lps (stk (qk Q r') q'))) := ⟨_, rfl⟩
    have ma : ∀ a, a ≠ 114 → m1 a = mi a := fun a ha => by rw [hm1, up2_n _ _ ha, up2_n _ _ ha, up2_n _ _ ha, up2_n _ _ ha, up2_n _ _ ha]
    have m83 : m1 114 83 = zi h := by rw [hm1]; simp only [up2_ap]; rfl
    have s68 : G 174 68 [some (.inr (.inr 114)), some (.inl a1), some (.inl a2), some (.inl a3), some (.inl (zi w)), some (.inl (zi r)), o6, o7, o8, o9] [] (s, n, mi, ml, mr) = G 174 182 [some (.inr (.inr 114)), some (.inl a1), some (.inl a2), some (.inl a3), some (.inl (zi w)), some (.inl (zi r')), some (.inl (zi 0)), o7, o8, o9] [] (s, n, m1, ml, mr) := by
      refine (b174_68 hG ..).trans ?_
      rw [gm78 hM, bind_s, g78, gm51 hM, bind_s, am115 hM i1, bind_s, h115, ix, show decide (zi (24 * r + qn Q r) ≠ zi (24 * r + qn Q r)) = false from decide_eq_false (fun h => h rfl), cnd_f, gm83 hM, bind_s, g83, show zi (h + 1) - 1 = zi h from by rw [show (1 : Int32) = zi 1 from rfl, zi_sub (by omega), Nat.add_sub_cancel], pm83 hM, bind_s, gm84 hM, bind_s, gm83 hM, bind_s, up2_s, up1_s, am136 hM (by omega), bind_s, up2_n _ _ (by decide), e2, show zi (24 * r' + q') + 1 = zi (24 * r' + (q' + 1)) from zi_add _ 1, pm78 hM, bind_s, gm84 hM, bind_s, gm83 hM, bind_s, up2_s, up1_n _ _ (by decide), up2_s, up1_s, am136 hM (by omega), bind_s, up2_n _ _ (by decide), up2_n _ _ (by decide), e2]
      rw [show (if (24 : Int32) = 0 then none else some (zi (24 * r' + q') / 24)) = some (zi r') from by rw [if_neg (by decide), show (24 : Int32) = zi 24 from rfl, zi_div (by omega) (by decide) (by decide), show (24 * r' + q') / 24 = r' by omega], bind_s, gm89 hM, bind_s, bind_s, show (7 : Int32) * zi h = zi (7 * h) from zi_mul 7 h, am141 hM (by omega), bind_s, up2_n _ _ (by decide), up2_n _ _ (by decide), e3, pm79 hM, bind_s, gm89 hM, bind_s, gm83 hM, bind_s]
      rw [show up2 (up2 (up2 mi 114 83 (zi h)) 114 78 (zi (24 * r' + (q' + 1)))) 114 79 (zi y0) 114 83 = zi h from by simp only [up2_ap]; rfl, show (7 : Int32) * zi h = zi (7 * h) from zi_mul 7 h, show zi (7 * h) + 1 = zi (7 * h + 1) from zi_add _ 1, am141 hM (by omega), bind_s, up2_n _ _ (by decide), up2_n _ _ (by decide), up2_n _ _ (by decide), e4, pm80 hM, bind_s, gm89 hM, bind_s, gm83 hM, bind_s]
      rw [show up2 (up2 (up2 (up2 mi 114 83 (zi h)) 114 78 (zi (24 * r' + (q' + 1)))) 114 79 (zi y0)) 114 80 (zi y1) 114 83 = zi h from by simp only [up2_ap]; rfl, show (7 : Int32) * zi h = zi (7 * h) from zi_mul 7 h, show zi (7 * h) + 2 = zi (7 * h + 2) from zi_add _ 2, am141 hM (by omega), bind_s, up2_n _ _ (by decide), up2_n _ _ (by decide), up2_n _ _ (by decide), up2_n _ _ (by decide), e5, pm81 hM, bind_s, ← hm1]
      rfl
    have st : ∀ (m : Nat → Nat → Int32) (j : Nat), j < 3 → m 114 83 = zi h → m 141 = mi 141 → G 174 182 [some (.inr (.inr 114)), some (.inl a1), some (.inl a2), some (.inl a3), some (.inl (zi w)), some (.inl (zi r')), some (.inl (zi j)), o7, o8, o9] [] (s, n, m, ml, mr) = G 174 182 [some (.inr (.inr 114)), some (.inl a1), some (.inl a2), some (.inl a3), some (.inl (zi w)), some (.inl (zi r')), some (.inl (zi (j + 1))), o7, o8, o9] [] (s, n, up2 m 135 j (mi 141 (7 * h + 3 + j)), ml, mr) := by
      intro m j hj hm hm2
      refine (b174_182 hG ..).trans ?_
      rw [decide_eq_false (by show ¬ zi 3 ≤ zi j; rw [zi_le (by omega) (by omega)]; omega : ¬ (3 : Int32) ≤ zi j), cnd_f, gm82 hM, bind_s, gm89 hM, bind_s, gm83 hM, bind_s, hm, show (7 : Int32) * zi h = zi (7 * h) from zi_mul 7 h, show zi (7 * h) + 3 = zi (7 * h + 3) from zi_add _ 3, zi_add, am141 hM (by omega), bind_s, hm2, wm135 hM hj, bind_s, show zi j + 1 = zi (j + 1) from zi_add _ 1]
    have s3 : ∀ m : Nat → Nat → Int32, G 174 182 [some (.inr (.inr 114)), some (.inl a1), some (.inl a2), some (.inl a3), some (.inl (zi w)), some (.inl (zi r')), some (.inl (zi 3)), o7, o8, o9] [] (s, n, m, ml, mr) = G 174 41 [some (.inr (.inr 114)), some (.inl a1), some (.inl a2), some (.inl a3), some (.inl (zi w)), some (.inl (zi r')), some (.inl (zi 3)), o7, o8, o9] [] (s, n, m, ml, mr) := by
      intro m
      refine (b174_182 hG ..).trans ?_
      rw [show decide ((3 : Int32) ≤ zi 3) = true from by decide, cnd_t]
    have lhs : G 174 41 [some (.inr (.inr 114)), some (.inl a1), some (.inl a2), some (.inl a3), some (.inl (zi w)), some (.inl (zi r)), o6, o7, o8, o9] [] (s, n, mi, ml, mr) = G 174 41 [some (.inr (.inr 114)), some (.inl a1), some (.inl a2), some (.inl a3), some (.inl (zi w)), some (.inl (zi r')), some (.inl (zi 3)), o7, o8, o9] [] (s, n, up2 (up2 (up2 m1 135 0 (mi 141 (7 * h + 3 + 0))) 135 1 (mi 141 (7 * h + 3 + 1))) 135 2 (mi 141 (7 * h + 3 + 2)), ml, mr) := by
      refine (b174_41 hG ..).trans ?_
      rw [gm78 hM, bind_s, g78, gm51 hM, bind_s, am115 hM i1, bind_s, h115, ix, decide_eq_false (by rw [zi_lt (by omega) (by omega)]; omega : ¬ zi (24 * r + qn Q r) < zi (24 * r + qn Q r)), cnd_f, gm83 hM, bind_s, g83, decide_eq_false (by show ¬ zi (h + 1) ≤ zi 0; rw [zi_le (by omega) (by omega)]; omega : ¬ zi (h + 1) ≤ 0), cnd_f, s68, st m1 0 (by decide) m83 (ma 141 (by decide)), st _ 1 (by decide) (by rw [up2_n _ _ (by decide)]; exact m83) (by rw [up2_n _ _ (by decide)]; exact ma 141 (by decide)), st _ 2 (by decide) (by rw [up2_n _ _ (by decide), up2_n _ _ (by decide)]; exact m83) (by rw [up2_n _ _ (by decide), up2_n _ _ (by decide)]; exact ma 141 (by decide)), s3]
    refine ⟨_, ml, zi 3, o7, o8, o9, lhs, ?_, ?_⟩
    · obtain ⟨m2, hm2⟩ : ∃ m, m = up2 (up2 (up2 m1 135 0 (mi 141 (7 * h + 3 + 0))) 135 1 (mi 141 (7 * h + 3 + 1))) 135 2 (mi 141 (7 * h + 3 + 2)) := ⟨_, rfl⟩
      rw [← hm2]
      have mb : ∀ a, a ≠ 135 → m2 a = m1 a := fun a ha => by rw [hm2, up2_n _ _ ha, up2_n _ _ ha, up2_n _ _ ha]
      have es : stk (qk Q r') (q' + 1) = stk (qk Q r') q' := by show stq (qk Q r' q') q' _ = _; rw [c2, stq_4]
      have ag : ∀ m, AGr m mi m2 ml ml := fun m => AGr_o (fun a h1 h2 => by rw [mb a (by omega), ma a (by omega)]) (fun _ _ _ => rfl)
      have hsb : sbe [] L = 0 := by unfold sbe; rfl
      refine ⟨⟨?_, ?_, ?_, ?_, ?_, ?_, ?_, ?_⟩, fun j hj => ?_, ?_, ?_⟩
      · rw [mb 114 (by decide), hm1]; simp only [up2_ap]; exact g76
      · rw [g77, hsb, es, Nat.zero_add]; rfl
      · rw [mb 114 (by decide), hm1]; simp only [up2_ap]; exact g57
      · rw [mb 114 (by decide), hm1]; simp only [up2_ap]; rfl
      · rw [mb 114 (by decide), hm1]; simp only [up2_ap]; rfl
      · rw [mb 114 (by decide), hm1]; simp only [up2_ap]; rfl
      · rw [mb 114 (by decide), hm1, es, up2_s, up1_s]
      · rw [mb 114 (by decide), m83, es, hh]
      · rw [es] at hj ⊢
        rw [← e6 j hj, hm2]
        have hj3 : j = 0 ∨ j = 1 ∨ j = 2 := by omega
        rcases hj3 with rfl | rfl | rfl
        · rw [up2_s, up1_n _ _ (by decide), up2_s, up1_n _ _ (by decide), up2_s, up1_s]
        · rw [up2_s, up1_n _ _ (by decide), up2_s, up1_s]
        · rw [up2_s, up1_s]
      · rw [es]
        exact PE_mv (ag (bse Q R + (stk (qk Q r') q').length)) (Nat.le_refl _) e1
      · exact PFs_mv hW (ag (bse Q R)) i7.2.2 (Nat.le_refl _) e7
    · rw [hm1]
      exact MRf_trans (MRf_trans (MRf_trans (MRf_trans (MRf_trans (MRf_trans (MRf_trans (MRf_f (by decide)) (MRf_f (by decide))) (MRf_f (by decide))) (MRf_f (by decide))) (MRf_f (by decide))) (MRf_a (by decide))) (MRf_a (by decide))) (MRf_a (by decide))