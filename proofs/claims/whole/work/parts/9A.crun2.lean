/-! the class: runs: what is held of a run -/
def CRf (mi mi' : Nat → Nat → Int32) (ml ml' : Nat → Nat → Int64) (mr mr' : Nat → Nat → Nat) : Prop := (∀ a, a < 142 → a ≠ 41 → (∀ r, r < 8 → a ≠ 42 + 9 * r) → mi' a = mi a) ∧ (∀ r, r < 8 → ∀ f, f ≠ 32 → mi' (42 + 9 * r) f = mi (42 + 9 * r) f) ∧ (∀ a, 142 ≤ a → ∀ f, f ≠ 9 → f ≠ 10 → mi' a f = mi a f) ∧ (∀ x, (∀ r, r < 8 → x ≠ 49 + 9 * r ∧ x ≠ 50 + 9 * r) → ml' x = ml x) ∧ (∀ a, a ≠ 41 → (∀ r, r < 8 → a ≠ 42 + 9 * r) → mr' a = mr a) ∧ (∀ r, r < 8 → ∀ f, f ≠ 31 → mr' (42 + 9 * r) f = mr (42 + 9 * r) f)
theorem CRf_refl (mi ml mr) : CRf mi mi ml ml mr mr := ⟨fun _ _ _ _ => rfl, fun _ _ _ _ => rfl, fun _ _ _ _ _ => rfl, fun _ _ => rfl, fun _ _ _ => rfl, fun _ _ _ _ => rfl⟩
theorem CRf_trans {a b c x y z u v w} (h : CRf a b x y u v) (h' : CRf b c y z v w) : CRf a c x z u w := ⟨fun k h1 h2 h3 => (h'.1 k h1 h2 h3).trans (h.1 k h1 h2 h3), fun r h1 f h2 => (h'.2.1 r h1 f h2).trans (h.2.1 r h1 f h2), fun k h1 f h2 h3 => (h'.2.2.1 k h1 f h2 h3).trans (h.2.2.1 k h1 f h2 h3), fun k h1 => (h'.2.2.2.1 k h1).trans (h.2.2.2.1 k h1), fun k h1 h2 => (h'.2.2.2.2.1 k h1 h2).trans (h.2.2.2.2.1 k h1 h2), fun r h1 f h2 => (h'.2.2.2.2.2 r h1 f h2).trans (h.2.2.2.2.2 r h1 f h2)⟩
theorem CRf_41 {mi : Nat → Nat → Int32} {ml mr} {f v} : CRf mi (up2 mi 41 f v) ml ml mr mr := ⟨fun a _ h2 _ => up2_n _ _ h2, fun r hr f _ => by rw [up2_n _ _ (by omega)], fun a h1 f _ _ => by rw [up2_n _ _ (by omega)], fun _ _ => rfl, fun _ _ _ => rfl, fun _ _ _ _ => rfl⟩
theorem CRf_910 {mi : Nat → Nat → Int32} {ml mr} {o f v} (ho : 142 ≤ o) (hf : f = 9 ∨ f = 10) : CRf mi (up2 mi o f v) ml ml mr mr := ⟨fun a h1 _ _ => up2_n _ _ (by omega), fun r hr f _ => by rw [up2_n _ _ (by omega)], fun a h1 g h2 h3 => by
    rw [up2_ap]
    split
    · rename_i e; rw [if_neg (by omega), e]
    · rfl, fun _ _ => rfl, fun _ _ _ => rfl, fun _ _ _ _ => rfl⟩
theorem CRf_ml {mi : Nat → Nat → Int32} {ml : Nat → Nat → Int64} {mr} {r x i v} (hr : r < 8) (hx : x = 49 + 9 * r ∨ x = 50 + 9 * r) : CRf mi mi ml (up2 ml x i v) mr mr := ⟨fun _ _ _ _ => rfl, fun _ _ _ _ => rfl, fun _ _ _ _ _ => rfl, fun y hy => up2_n _ _ (by have := hy r hr; omega), fun _ _ _ => rfl, fun _ _ _ _ => rfl⟩
theorem CS_CR {s mi mi' ml ml' mr mr'} (hC : CS s mr) (h : CRf mi mi' ml ml' mr mr') : CS s mr' := CS_ext hC (fun _ _ => rfl) (fun x f hx => by
  rcases hx with hx | ⟨r, hr, e, hf⟩ | ⟨r, hr, e⟩
  · rw [h.2.2.2.2.1 x (by omega) (fun r _ => by omega)]
  · rw [e]; exact h.2.2.2.2.2 r hr f hf
  · rw [h.2.2.2.2.1 x (by omega) (fun r' _ => by omega)])
theorem EX_CR {s mi mi' ml ml' mr mr' N e t} (h : CRf mi mi' ml ml' mr mr') (hE : EX s mi N e t) : EX s mi' N e t := ⟨hE.1, hE.2.1, hE.2.2.1, fun q hq => by rw [h.2.2.1 e hE.1 q (by omega) (by omega)]; exact hE.2.2.2 q hq⟩
theorem CQ_CR {Q : Pg} {N s mi mi' ml ml' mr mr'} (hQ : CQ Q N s mi mr) (hW : WP Q) (h : CRf mi mi' ml ml' mr mr') : CQ Q N s mi' mr' := by
  have e43 : ∀ r, r < 8 → mr' (43 + 9 * r) = mr (43 + 9 * r) := fun r hr => h.2.2.2.2.1 _ (by omega) (fun r' _ => by omega)
  refine ⟨by rw [h.1 4 (by decide) (by decide) (fun r _ => by omega)]; exact hQ.1, fun r hr => ?_, fun r p r' p' h1 h2 h3 h4 h5 => hQ.2.2 r p r' p' h1 h2 h3 h4 (by rw [e43 r h1, e43 r' h2] at h5; exact h5)⟩
  obtain ⟨a1, a2, a3, a4, a5, a6, a7⟩ := hQ.2.1 r hr
  have m42 := h.2.1 r hr
  refine ⟨by rw [m42 21 (by decide)]; exact a1, by rw [m42 23 (by decide)]; exact a2, by rw [m42 25 (by decide)]; exact a3, by rw [h.1 (44 + 9 * r) (by omega) (by omega) (fun r' _ => by omega)]; exact a4, by rw [m42 26 (by decide)]; exact a5, fun p hp => ?_, fun q hq => ?_⟩
  · obtain ⟨c1, c2, c3, c4, c5, c6, c7, c8, c9, c10, c11, c12, c13⟩ := a6 p hp
    have ho := h.2.2.1 (mr (43 + 9 * r) p) c1
    have hm : mr' (mr (43 + 9 * r) p) = mr (mr (43 + 9 * r) p) := h.2.2.2.2.1 _ (by omega) (fun r' _ => by omega)
    have hop : 6 ≤ qk Q r p → 142 ≤ mr (43 + 9 * r) (hdp (stk (qk Q r) p)) := fun h6 => (CQ_hd hQ hW hr hp h6).1
    unfold CO
    rw [e43 r hr, hm]
    refine ⟨c1, c2, c3, by rw [ho 1 (by decide) (by decide)]; exact c4, by rw [ho 2 (by decide) (by decide)]; exact c5, by rw [ho 3 (by decide) (by decide)]; exact c6, by rw [ho 4 (by decide) (by decide)]; exact c7, fun hk => by rw [ho 42 (by decide) (by decide)]; exact c8 hk, fun hk => EX_CR h (c9 hk), fun hk => ⟨EX_CR h (c10 hk).1, (c10 hk).2⟩, fun hk => by rw [h.2.2.1 _ (hop (by omega)) 11 (by decide) (by decide)]; exact c11 hk, fun hk => by rw [h.2.2.1 _ (hop (by omega)) 7 (by decide) (by decide)]; exact c12 hk, fun hk => by rw [h.2.2.1 _ (hop (by omega)) 8 (by decide) (by decide)]; exact c13 hk⟩
  · have hl := stk_lt (hW.2.2.2.1 r) _ hq
    have c1 := (a6 q hl).1
    rw [e43 r hr, h.2.2.1 _ c1 7 (by decide) (by decide)]
    exact a7 q hq
/-- the eithers that are open, in a run that does both parts -/
def EC (mi : Nat → Nat → Int32) (ob : Nat → Nat) : List (Nat × Nat) → List En → Prop
  | (_, 0) :: S, _ :: L => EC mi ob S L
  | (q, 1) :: S, c :: L => mi (ob q) 9 = zi c.1 ∧ EC mi ob S L
  | (q, _) :: S, c :: L => (mi (ob q) 9 = zi c.1 ∧ mi (ob q) 10 = zi c.2) ∧ EC mi ob S L
  | _, _ => True
theorem EC_0 (mi ob q S c L) : EC mi ob ((q, 0) :: S) (c :: L) = EC mi ob S L := rfl
theorem EC_1 (mi ob q S c L) : EC mi ob ((q, 1) :: S) (c :: L) = (mi (ob q) 9 = zi c.1 ∧ EC mi ob S L) := rfl
theorem EC_2 (mi ob q S c L) : EC mi ob ((q, 2) :: S) (c :: L) = ((mi (ob q) 9 = zi c.1 ∧ mi (ob q) 10 = zi c.2) ∧ EC mi ob S L) := rfl
theorem EC_mv {mi mi' : Nat → Nat → Int32} {ob ob' : Nat → Nat} : ∀ {S : List (Nat × Nat)} {L : List En}, (∀ q ∈ S, mi' (ob' q.1) 9 = mi (ob q.1) 9 ∧ mi' (ob' q.1) 10 = mi (ob q.1) 10) → EC mi ob S L → EC mi' ob' S L
  | [], _, _, _ => by unfold EC; exact trivial
  | (q, 0) :: S, [], _, _ => by unfold EC; exact trivial
  | (q, 1) :: S, [], _, _ => by unfold EC; exact trivial
  | (q, k + 2) :: S, [], _, _ => by unfold EC; exact trivial
  | (q, 0) :: S, c :: L, h, hh => by
    unfold EC at hh ⊢
    exact EC_mv (fun a ha => h a (List.mem_cons_of_mem _ ha)) hh
  | (q, 1) :: S, c :: L, h, hh => by
    unfold EC at hh ⊢
    exact ⟨(h (q, 1) (List.mem_cons_self ..)).1.trans hh.1, EC_mv (fun a ha => h a (List.mem_cons_of_mem _ ha)) hh.2⟩
  | (q, k + 2) :: S, c :: L, h, hh => by
    unfold EC at hh ⊢
    have h0 := h (q, k + 2) (List.mem_cons_self ..)
    exact ⟨⟨h0.1.trans hh.1.1, h0.2.trans hh.1.2⟩, EC_mv (fun a ha => h a (List.mem_cons_of_mem _ ha)) hh.2⟩
def FrC (Q : Pg) (w : Nat) (mi : Nat → Nat → Int32) (ml : Nat → Nat → Int64) (mr : Nat → Nat → Nat) (r p x0 x1 : Nat) (L : List En) : Prop := ml (49 + 9 * r) 0 = zl x0 ∧ ml (49 + 9 * r) 1 = zl x1 ∧ (∀ j, j < 3 → ml (49 + 9 * r) (2 + j) = zl (cf (stk (qk Q r) p) L j)) ∧ (∀ j, j < lps (stk (qk Q r) p) → ml (50 + 9 * r) (2 + j) = zl (ef (stk (qk Q r) p) L j)) ∧ (3 ≤ w → EC mi (mr (43 + 9 * r)) (stk (qk Q r) p) L)
def FsC (Q : Pg) (w : Nat) (mi : Nat → Nat → Int32) (ml : Nat → Nat → Int64) (mr : Nat → Nat → Nat) : List Fr → Prop
  | [] => True
  | (r, p, x0, x1, L) :: R => FrC Q w mi ml mr r p x0 x1 L ∧ (match R with
    | [] => mr (42 + 9 * r) 31 = 0
    | (r', q', _, _, _) :: _ => mr (42 + 9 * r) 31 = 42 + 9 * r' ∧ mi (42 + 9 * r) 32 = zi (q' + 1)) ∧ FsC Q w mi ml mr R
def RC (Q : Pg) (w : Nat) (mi : Nat → Nat → Int32) (ml : Nat → Nat → Int64) (mr : Nat → Nat → Nat) (A : Rs) : Prop := (mi 41 34 = zi w ∧ mi 41 35 = zi A.2.1 ∧ mi 41 36 = zi A.2.2.1 ∧ mi 41 37 = bz false ∧ mi 41 33 = A.2.2.2) ∧ (match A.1 with
  | [] => True
  | (r, p, _, _, _) :: _ => mr 41 38 = 42 + 9 * r ∧ mi 41 39 = zi p) ∧ FsC Q w mi ml mr A.1
/-- the routines of the frames are ever greater -/
def RGt (r0 : Nat) : List Fr → Prop
  | [] => True
  | (r, _, _, _, _) :: R => r0 < r ∧ RGt r0 R
theorem RGt_mono {a b : Nat} (h : a ≤ b) : ∀ {fs}, RGt b fs → RGt a fs
  | [], _ => trivial
  | (_, _, _, _, _) :: _, hh => ⟨Nat.lt_of_le_of_lt h hh.1, RGt_mono h hh.2⟩
theorem FsI_gt {Q : Pg} (hW : WP Q) : ∀ {R : List Fr} {r p x0 x1 L}, FsI Q ((r, p, x0, x1, L) :: R) → RGt r R
  | [], _, _, _, _, _, _ => trivial
  | (r', q', y0, y1, L') :: R', r, p, x0, x1, L, h => by
    obtain ⟨-, ⟨c1, c2, c3⟩, h2⟩ := h
    have hd := hW.2.2.2.2.2.1 r' q' c1 c2
    rw [c3] at hd
    exact ⟨hd, RGt_mono (Nat.le_of_lt hd) (FsI_gt hW h2)⟩
/-- frames whose routines lie above r0 are held as before -/
theorem FsC_mv {Q : Pg} {w r0 : Nat} {mi mi' : Nat → Nat → Int32} {ml ml' : Nat → Nat → Int64} {mr mr' : Nat → Nat → Nat} (hW : WP Q) (h : ∀ r, r0 < r → r < 8 → ml' (49 + 9 * r) = ml (49 + 9 * r) ∧ ml' (50 + 9 * r) = ml (50 + 9 * r) ∧ mr' (42 + 9 * r) 31 = mr (42 + 9 * r) 31 ∧ mi' (42 + 9 * r) 32 = mi (42 + 9 * r) 32 ∧ ∀ q, q < qn Q r → mi' (mr' (43 + 9 * r) q) 9 = mi (mr (43 + 9 * r) q) 9 ∧ mi' (mr' (43 + 9 * r) q) 10 = mi (mr (43 + 9 * r) q) 10) : ∀ {R : List Fr}, RGt r0 R → FsI Q R → FsC Q w mi ml mr R → FsC Q w mi' ml' mr' R
  | [], _, _, _ => trivial
  | (r, p, x0, x1, L) :: R, hg, hi, hh => by
    obtain ⟨⟨i1, i2, i3, i4, i5⟩, -, i7⟩ := hi
    obtain ⟨g1, g2, g3, g4, g5⟩ := h r hg.1 i1
    obtain ⟨⟨f1, f2, f3, f4, f5⟩, f6, f7⟩ := hh
    have hlt := stk_lt (WF_le (hW.2.2.2.1 r) i3)
    refine ⟨⟨by rw [g1]; exact f1, by rw [g1]; exact f2, fun j hj => by rw [g1]; exact f3 j hj, fun j hj => by rw [g2]; exact f4 j hj, fun h3 => EC_mv (fun q hq => g5 q.1 (by have := hlt q hq; omega)) (f5 h3)⟩, ?_, FsC_mv hW h hg.2 i7 f7⟩
    cases R with
    | nil => rw [g3]; exact f6
    | cons f R =>
      obtain ⟨r', q', y0, y1, L'⟩ := f
      exact ⟨g3.trans f6.1, g4.trans f6.2⟩
/-- what a step has come to -/
def PC (Q : Pg) (w : Nat) (mi : Nat → Nat → Int32) (ml : Nat → Nat → Int64) (mr : Nat → Nat → Nat) : (Int32 × Int32) ⊕ Rs → Prop
  | .inr B => RC Q w mi ml mr B
  | .inl v => mi 41 33 = v.2 ∧ ((mr 41 38 = 0 ∧ mi 41 35 = v.1) ∨ (mr 41 38 ≠ 0 ∧ mi 41 37 = bz true ∧ v.1 = -1000004))
