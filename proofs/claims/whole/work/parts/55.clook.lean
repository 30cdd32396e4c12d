section
/-! THE CLASS LOOKS AT A MESSAGE -/
section
variable {N u g H T r a b d at_ : Nat} {s : cS} {R m : List Nat}
theorem digestC (hN : 2100 ≤ N) (hS : St u g H T s) (hR : cB s r R) (hrn : ¬ isH (g + 3) r) (hab : a ≤ b) (hb : b ≤ R.length) (hn : b - a ≤ 1024) (hdn : ¬ isH (g + 3) d) (hat : at_ + 32 ≤ cL s d) (hdl : cL s d ≤ 3000) : wp (p_X2_digest N g H T s (g + 3) (some r) (nI a) (nI b) (some d) (nI at_)) (k_X2_digest N g H T s (g + 3) (some r) (nI a) (nI b) (some d) (nI at_)) (fun s' => cfr (fun x => isH (g + 3) x ∨ x = d) s s' ∧ (∀ i, i < 32 → cA s' d (at_ + i) &&& nI 255 = nI (bg (shaB (sl R a (b - a))) i)) ∧ ∀ i, i < at_ ∨ at_ + 32 ≤ i → cA s' d i = cA s d i) := by
  have r1 := hR.1
  have r2 := hR.2.1
  have hh := hS.hL
  have rne : r ≠ g + 3 + 1 := by unfold isH at hrn; omega
  obtain ⟨a1, a2⟩ := open_ok (N := N) (g := g) (H := H) (T := T) (h := g + 3) s (fun _ => 0)
  obtain ⟨d1, d2⟩ := addR_ok (N := N) (g := g) (H := H) (T := T) a2 rne hab (by omega : b ≤ cL s r) (by omega) (by omega)
  obtain ⟨e1, e2, e3, e4, -, -⟩ := closeF (N := N) (g := g) (H := H) (T := T) (r := d) (at_ := at_) (by omega) d2 (by omega) hh.1 hh.2.1 (by unfold isH at hdn; omega) hat (by omega)
  refine wp_fin ⟨a1, d1, e1, trivial⟩ ⟨e2, fun i hi => ?_, e4⟩
  refine (e3 i hi).trans ?_
  refine shaB_of (by rw [sl_len]; omega) (fun k hk => ?_) hi
  have hk2 : k < b - a := by omega
  show (if k < 0 then _ else cA s r (a + (k - 0)) &&& nI 255) = _
  rw [if_neg (by omega), sl_in hk2, Nat.sub_zero]
  have := hR.an (a := a + k) (by omega)
  rw [n_clamp (by omega)] at this
  exact this
theorem fits_ok (hN : 2100 ≤ N) (hS : St u g H T s) (hT : cI s 1 (g + 9) = nI T) (hT2 : T ≤ 13) (hr : cK s r = 20) (hrn : ¬ fiP g r) (hm : cB s r m) (h0 : 1 ≤ m.length) (hl : 128 ≤ cL s r ∧ cL s r ≤ 1000) : wp (p_X1_fits N g H T s (g + 9) (some r) (nI m.length)) (k_X1_fits N g H T s (g + 9) (some r) (nI m.length)) (fun z => cfr (fiP g) s z.2 ∧ ((wf T m ∧ z.1 = nI 1) ∨ (¬ wf T m ∧ z.1 = nI 0))) := by
  have m1 := hm.1
  have h4 := hm.2.2.2
  have t0 := h4 0
  have t5 := h4 5
  have no : ∀ {s' : cS}, cfr (fiP g) s s' → ¬ wf T m → cfr (fiP g) s ((nI 0 : Int32), s').2 ∧ ((wf T m ∧ ((nI 0 : Int32), s').1 = nI 1) ∨ (¬ wf T m ∧ ((nI 0 : Int32), s').1 = nI 0)) := fun x q => ⟨x, Or.inr ⟨q, rfl⟩⟩
  have yes : ∀ {s' : cS}, cfr (fiP g) s s' → wf T m → cfr (fiP g) s ((nI 1 : Int32), s').2 ∧ ((wf T m ∧ ((nI 1 : Int32), s').1 = nI 1) ∨ (¬ wf T m ∧ ((nI 1 : Int32), s').1 = nI 0)) := fun x q => ⟨x, Or.inl ⟨q, rfl⟩⟩
  show wp (KO_X1_fits_0 N g H T (g + 9) (some r) (nI m.length) s) (KF_X1_fits_0 N g H T (g + 9) (some r) (nI m.length) s) _
  unfold KO_X1_fits_0 KF_X1_fits_0
  rw [zsome r, hm.at_ (a := 0) (by omega)]
  refine wp_and ⟨someN, ((n_in (by omega)).2 (by omega))⟩ (wp_ite (fun c0 => ?_) (fun c0 => ?_)) <;> rw [sb_eq (by omega) (by omega)] at c0
  · have w := wf0 (T := T) (m := m) c0.2
    refine wp_ite (fun c => ?_) (fun c => ?_) <;> rw [n_eq' (by omega) (by omega)] at c
    · obtain ⟨u1, u2⟩ := paymentFits_ok (N := N) (g := g) (H := H) (T := T) (a := 1) hm (by omega)
      refine wp_and u1 ?_
      rcases u2 with ⟨u2, u3⟩ | ⟨u2, u3⟩ <;> rw [u3]
      · exact wp_neg (by decide) (wp_fin rfl (yes cfr.refl (w.2 ⟨c, u2⟩)))
      · exact wp_pos rfl (wp_fin rfl (no cfr.refl fun q => u2 (w.1 q).2))
    · exact wp_fin rfl (no cfr.refl fun q => c (w.1 q).1)
  refine wp_ite (fun c1 => ?_) (fun c1 => ?_) <;> rw [sb_eq (by omega) (by omega)] at c1
  · have w := wf1 (T := T) (m := m) c1.2
    have hlen : prOK T m → 107 ≤ m.length := fun q => by
      have := q.2.2.1.1
      rw [List.length_drop] at this
      omega
    refine wp_ite (fun c => ?_) (fun c => ?_) <;> rw [n_lt' (by omega) (by omega)] at c
    · exact wp_fin rfl (no cfr.refl fun q => by have := hlen (w.1 q); omega)
    obtain ⟨u1, u2⟩ := signFits_ok (N := N) (g := g) (H := H) (T := T) hm hT hT2 (by omega)
    refine wp_and u1 ?_
    rcases u2 with ⟨u2, u3⟩ | ⟨u2, u3⟩ <;> rw [u3]
    rotate_left
    · exact wp_pos rfl (wp_fin rfl (no cfr.refl fun q => u2 (w.1 q).1))
    rw [hm.an (a := 5) (by omega)]
    have key : (bg m 5 ≤ 15 ∨ bg m 5 = 255) → wp (KO_X1_fits_107 N g H T (g + 9) (some r) (nI m.length) s) (KF_X1_fits_107 N g H T (g + 9) (some r) (nI m.length) s) (fun z => cfr (fiP g) s z.2 ∧ ((wf T m ∧ z.1 = nI 1) ∨ (¬ wf T m ∧ z.1 = nI 0))) := by
      intro b5
      have l1 := tw_lt h4 2
      have l2 := tw_lt h4 6
      obtain ⟨v1, v2⟩ := twoBytes_ok (N := N) (g := g) (H := H) (T := T) (a := 2) hm (by omega)
      obtain ⟨x1, x2⟩ := twoBytes_ok (N := N) (g := g) (H := H) (T := T) (a := 6) hm (by omega)
      unfold KO_X1_fits_107 KF_X1_fits_107
      rw [v2, x2]
      refine wp_and v1 (wp_and x1 (wp_ite (fun c6 => ?_) (fun c6 => ?_))) <;> rw [n_eq' (by omega) (by omega)] at c6
      · refine wp_call (blockFits_ok (a := 6) hN hS hT hT2 hr hrn hm (by omega) (by omega) hl.2) (fun q => ?_)
        obtain ⟨q1, q2⟩ := q
        generalize k_X1_blockFits N g H T s (g + 9) (some r) (nI 6) (nI m.length) = y at q1 q2 ⊢
        unfold KO_X1_fits_129 KF_X1_fits_129
        rcases q2 with ⟨q2, q3⟩ | ⟨q2, q3⟩ <;> rw [q3]
        · exact wp_neg (by decide) (wp_fin rfl (yes q1 (w.2 ⟨u2, b5, q2, c6.symm⟩)))
        · exact wp_pos rfl (wp_fin rfl (no q1 fun q => q2 (w.1 q).2.2.1))
      · exact wp_fin rfl (no cfr.refl fun q => c6 (w.1 q).2.2.2.symm)
    refine wp_neg (by decide) (wp_and ⟨someN, ((n_in (by omega)).2 (by omega))⟩ (wp_ite (fun c5 => ?_) (fun c5 => ?_))) <;> rw [n_lt' (by omega) (by omega)] at c5
    · exact key (by omega)
    refine wp_and ⟨someN, ((n_in (by omega)).2 (by omega))⟩ (wp_ite (fun c6 => ?_) (fun c6 => ?_)) <;> rw [n_eq' (by omega) (by omega)] at c6
    · exact key (by omega)
    · exact wp_fin rfl (no cfr.refl fun q => by have := (w.1 q).2.1; omega)
  have h163 : (bg m 0 = 2 ∨ bg m 0 = 3) → ((m.length = 6 ∧ bg m 5 = 0) ∨ (m.length = 38 ∧ bg m 5 = 1)) → wp (KO_X1_fits_163 N g H T (g + 9) (some r) s) (KF_X1_fits_163 N g H T (g + 9) (some r) s) (fun z => cfr (fiP g) s z.2 ∧ ((wf T m ∧ z.1 = nI 1) ∨ (¬ wf T m ∧ z.1 = nI 0))) := by
    intro c cl
    have w := wf23 (T := T) (m := m) c
    obtain ⟨u1, u2⟩ := signFits_ok (N := N) (g := g) (H := H) (T := T) hm hT hT2 (by omega)
    unfold KO_X1_fits_163 KF_X1_fits_163
    refine wp_and u1 ?_
    rcases u2 with ⟨u2, u3⟩ | ⟨u2, u3⟩ <;> rw [u3]
    · exact wp_neg (by decide) (wp_fin rfl (yes cfr.refl (w.2 ⟨u2, cl⟩)))
    · exact wp_pos rfl (wp_fin rfl (no cfr.refl fun q => u2 (w.1 q).1))
  have h150 : (bg m 0 = 2 ∨ bg m 0 = 3) → ¬ (m.length = 6 ∧ bg m 5 = 0) → wp (KO_X1_fits_150 N g H T (g + 9) (some r) (nI m.length) s) (KF_X1_fits_150 N g H T (g + 9) (some r) (nI m.length) s) (fun z => cfr (fiP g) s z.2 ∧ ((wf T m ∧ z.1 = nI 1) ∨ (¬ wf T m ∧ z.1 = nI 0))) := by
    intro c nl
    have w := wf23 (T := T) (m := m) c
    unfold KO_X1_fits_150 KF_X1_fits_150
    refine wp_ite (fun c3 => ?_) (fun c3 => ?_) <;> rw [n_eq' (by omega) (by omega)] at c3
    · rw [zsome r, hm.at_ (a := 5) (by omega)]
      refine wp_and ⟨someN, ((n_in (by omega)).2 (by omega))⟩ (wp_ite (fun c4 => ?_) (fun c4 => ?_)) <;> rw [sb_eq (by omega) (by omega)] at c4
      · exact h163 c (Or.inr ⟨c3, c4.2⟩)
      · exact wp_fin rfl (no cfr.refl fun q => by rcases (w.1 q).2 with z | z <;> omega)
    · exact wp_fin rfl (no cfr.refl fun q => by rcases (w.1 q).2 with z | z <;> omega)
  have hvt : (bg m 0 = 2 ∨ bg m 0 = 3) → wp ((nI m.length = (nI 6) → (¬ some r = none ∧ vp_in (nI 5) (cL s r)) ∧ (((cA s r (nI 5).toNatClampNeg) = 0 → KO_X1_fits_163 N g H T (g + 9) (some r) s) ∧ (¬ (cA s r (nI 5).toNatClampNeg) = 0 → KO_X1_fits_150 N g H T (g + 9) (some r) (nI m.length) s))) ∧ (¬ nI m.length = (nI 6) → KO_X1_fits_150 N g H T (g + 9) (some r) (nI m.length) s)) (if nI m.length = (nI 6) then (if (cA s r (nI 5).toNatClampNeg) = 0 then (KF_X1_fits_163 N g H T (g + 9) (some r) s) else (KF_X1_fits_150 N g H T (g + 9) (some r) (nI m.length) s)) else (KF_X1_fits_150 N g H T (g + 9) (some r) (nI m.length) s)) (fun z => cfr (fiP g) s z.2 ∧ ((wf T m ∧ z.1 = nI 1) ∨ (¬ wf T m ∧ z.1 = nI 0))) := by
    intro c
    refine wp_ite (fun c3 => ?_) (fun c3 => ?_) <;> rw [n_eq' (by omega) (by omega)] at c3
    · rw [hm.at_ (a := 5) (by omega)]
      refine wp_and ⟨someN, ((n_in (by omega)).2 (by omega))⟩ (wp_ite (fun c4 => ?_) (fun c4 => ?_)) <;> rw [sb_eq0 (by omega)] at c4
      · exact h163 c (Or.inl ⟨c3, c4⟩)
      · exact h150 c (by omega)
    · exact h150 c (by omega)
  refine wp_ite (fun c2 => ?_) (fun c2 => ?_) <;> rw [sb_eq (by omega) (by omega)] at c2
  · exact hvt (by omega)
  refine wp_ite (fun c3 => ?_) (fun c3 => ?_) <;> rw [sb_eq (by omega) (by omega)] at c3
  · exact hvt (by omega)
  refine wp_ite (fun c4 => ?_) (fun c4 => ?_) <;> rw [sb_eq (by omega) (by omega)] at c4
  · have w := wf4 (T := T) (m := m) c4.2
    refine wp_call (blockFits_ok (a := 1) hN hS hT hT2 hr hrn hm (by omega) (by omega) hl.2) (fun q => ?_)
    obtain ⟨q1, q2⟩ := q
    generalize k_X1_blockFits N g H T s (g + 9) (some r) (nI 1) (nI m.length) = y at q1 q2 ⊢
    unfold KO_X1_fits_184 KF_X1_fits_184
    rcases q2 with ⟨q2, q3⟩ | ⟨q2, q3⟩ <;> rw [q3]
    · exact wp_fin rfl (yes q1 (w.2 q2))
    · exact wp_fin rfl (no q1 fun q => q2 (w.1 q))
  refine wp_ite (fun c5 => ?_) (fun c5 => ?_) <;> rw [sb_eq (by omega) (by omega)] at c5
  · have w := wf5 (T := T) (m := m) c5.2
    refine wp_ite (fun c => ?_) (fun c => ?_) <;> rw [n_eq' (by omega) (by omega)] at c
    · obtain ⟨u1, u2⟩ := heightFits_ok (N := N) (g := g) (H := H) (T := T) (a := 1) hm (by omega)
      refine wp_and u1 ?_
      rcases u2 with ⟨u2, u3⟩ | ⟨u2, u3⟩ <;> rw [u3]
      · exact wp_neg (by decide) (wp_fin rfl (yes cfr.refl (w.2 ⟨c, u2⟩)))
      · exact wp_pos rfl (wp_fin rfl (no cfr.refl fun q => u2 (w.1 q).2))
    · exact wp_fin rfl (no cfr.refl fun q => c (w.1 q).1)
  refine wp_ite (fun c6 => ?_) (fun c6 => ?_) <;> rw [sb_eq (by omega) (by omega)] at c6
  · have w := wf6 (T := T) (m := m) c6.2
    obtain ⟨u1, u2⟩ := evidenceFits_ok (N := N) (g := g) (H := H) (T := T) (a := 1) hm hT hT2 (by omega) (by omega)
    have sz := evSz_le m 1
    refine wp_and u1 ?_
    rcases u2 with ⟨u2, u3⟩ | ⟨u2, u3⟩ <;> rw [u3]
    · refine wp_ite (fun c => ?_) (fun c => ?_) <;> rw [n_eq' (by omega) (by omega)] at c
      · exact wp_fin rfl (yes cfr.refl (w.2 ⟨u2, (by omega)⟩))
      · exact wp_fin rfl (no cfr.refl fun q => c (by have := (w.1 q).2; omega))
    · refine wp_neg (fun c => ?_) (wp_fin rfl (no cfr.refl fun q => u2 (w.1 q).1))
      rw [← iI_m1, ← iI_n, iI_eq (by omega) (by omega) (by omega) (by omega)] at c
      omega
  refine wp_ite (fun c7 => ?_) (fun c7 => ?_) <;> rw [sb_eq (by omega) (by omega)] at c7
  · have w := wf7 (T := T) (m := m) c7.2
    refine wp_ite (fun c => ?_) (fun c => ?_) <;> rw [n_eq' (by omega) (by omega)] at c
    · obtain ⟨u1, u2⟩ := snapshotFits_ok (N := N) (g := g) (H := H) (T := T) hm c (by omega)
      refine wp_and u1 ?_
      rcases u2 with ⟨u2, u3⟩ | ⟨u2, u3⟩ <;> rw [u3]
      · exact wp_neg (by decide) (wp_fin rfl (yes cfr.refl (w.2 u2)))
      · exact wp_pos rfl (wp_fin rfl (no cfr.refl fun q => u2 (w.1 q)))
    · exact wp_fin rfl (no cfr.refl fun q => c (w.1 q).1)
  exact wp_fin trivial (no cfr.refl (wf8 (by omega)))
end
/-- the id that a message is known by -/
def idM (m : List Nat) : Option (List Nat) := if bg m 0 = 1 then some (idB (m.drop 6)) else if bg m 0 = 4 then some (idB (m.drop 1)) else if (bg m 0 = 2 ∨ bg m 0 = 3) ∧ bg m 5 = 1 then some (sl m 6 32) else none
def nmC (s : cS) (a : Nat) (o : Option (List Nat)) : Prop := match o with
  | none => cI s 5 a = nI 0
  | some d => cI s 5 a = nI 1 ∧ ∀ k, k < 32 → lby (cJ s (a + 1)) k = nI (bg d k)
/-- what is known of a message: nothing yet, well formed and its id, or ill formed -/
def mF (T : Nat) (s : cS) (a : Nat) (m : List Nat) : Prop := (cI s 4 a = nI 0 ∧ cI s 5 a = nI 0) ∨ (cI s 4 a = nI 1 ∧ wf T m ∧ nmC s a (idM m)) ∨ (cI s 4 a = nI 2 ∧ ¬ wf T m ∧ cI s 5 a = nI 0)
/-- what looking at a message may change -/
def lkF (g a : Nat) (s s' : cS) : Prop := cF (fun x => fiP g x ∨ x = a ∨ x = a + 1) s s' ∧ (∀ k, k ≠ 4 → k ≠ 5 → cI s' k a = cI s k a) ∧ cR s' = cR s ∧ cP s' = cP s ∧ cn s' = cn s ∧ ck s' = ck s ∧ cK s' = cK s ∧ cL s' = cL s
theorem lkF.refl {g a : Nat} {s : cS} : lkF g a s s := ⟨cF.refl, fun _ _ _ => rfl, rfl, rfl, rfl, rfl, rfl, rfl⟩
theorem lkF.trans {g a : Nat} {s s1 s2 : cS} (h : lkF g a s s1) (h' : lkF g a s1 s2) : lkF g a s s2 := by
  obtain ⟨a1, a2, a3, a4, a5, a6, a7, a8⟩ := h
  obtain ⟨b1, b2, b3, b4, b5, b6, b7, b8⟩ := h'
  exact ⟨a1.trans b1, fun k x y => (b2 k x y).trans (a2 k x y), b3.trans a3, b4.trans a4, b5.trans a5, b6.trans a6, b7.trans a7, b8.trans a8⟩
theorem cfr.lk {g a : Nat} {s s1 : cS} (h : cfr (fiP g) s s1) (ha : ¬ fiP g a) : lkF g a s s1 := by
  have hF := h.F
  obtain ⟨h1, h2, h3, h4, h5, h6, h7, h8, h9⟩ := h
  exact ⟨hF.mono (fun x _ z => Or.inl z), fun k _ _ => h8 k a ha, h5, h6, h3, h4, h1, h2⟩
theorem lkF_I {g a : Nat} {s : cS} {k : Nat} {v : Int32} (hk : k = 4 ∨ k = 5) : lkF g a s (csI s k a v) := ⟨(cF_I s k a v).mono (fun x _ z => Or.inr (Or.inl z)), fun j h4 h5 => cI_other _ _ (Or.inl (by omega)), rfl, rfl, rfl, rfl, rfl, rfl⟩
theorem lkF_J {g a : Nat} {s : cS} {f : Nat → Int64} : lkF g a s (csJrow s (a + 1) f) := ⟨(cF_Jr s (a + 1) f).mono (fun x _ z => Or.inr (Or.inr z)), fun _ _ _ => rfl, rfl, rfl, rfl, rfl, rfl, rfl⟩
section
variable {N u g H T a : Nat} {s s1 : cS} {m : List Nat}
theorem St.ms (hS : St u g H T s) (h : cK s a = 5) : g + 31 ≤ a ∧ cK s (a + 2) = 20 ∧ cK s (a + 1) = 22 ∧ a + 2 < cn s := by
  obtain ⟨a1, a2, a3, a4, a5, -⟩ := hS.2.2.1 a h
  exact ⟨a1, a4, a5, hS.lt (by rw [a4]; decide)⟩
theorem fiP_no (h : g + 31 ≤ a) : ¬ fiP g a := by
  unfold fiP isH
  omega
theorem mS.lk (h : mS s a m) (hS : St u g H T s) (hf : lkF g a s s1) : mS s1 a m := by
  obtain ⟨h1, h2, h3, h4, h5, h6⟩ := h
  obtain ⟨q1, q2, q3, q4⟩ := hS.ms h1
  obtain ⟨f1, f2, f3, f4, f5, f6, f7, f8⟩ := hf
  refine ⟨by rw [f7]; exact h1, by rw [f2 2 (by decide) (by decide)]; exact h2, h3.F f1 q4 ?_, h4, by rw [f8]; exact h5, h6⟩
  rintro (z | z | z)
  · exact fiP_no (by omega) z
  · omega
  · omega
theorem name_ok (hN : 2100 ≤ N) (hS : St u g H T s) (h : mS s a m) (hw : wf T m) (h5 : cI s 5 a = nI 0) : wp (p_X1_name N g H T s (g + 9) (some a)) (k_X1_name N g H T s (g + 9) (some a)) (fun s' => lkF g a s s' ∧ cI s' 4 a = cI s 4 a ∧ nmC s' a (idM m)) := by
  obtain ⟨q1, q2, q3, q4⟩ := hS.ms h.1
  have hb := h.2.2.1
  have hl := h.L
  have t0 := hb.2.2.2 0
  have t5 := hb.2.2.2 5
  obtain ⟨a1, a2⟩ := blockAt_ok (N := N) (g := g) (H := H) (T := T) h
  obtain ⟨k1, k2⟩ := kind_ok (N := N) (g := g) (H := H) (T := T) h
  have nfi : ¬ fiP g a := fiP_no q1
  have rh : ¬ isH (g + 3) (a + 2) := by unfold isH; omega
  show wp (KO_X1_name_0 N g H T (g + 9) (some a) s) (KF_X1_name_0 N g H T (g + 9) (some a) s) _
  unfold KO_X1_name_0 KF_X1_name_0
  rw [zsome a, a2, k2]
  refine wp_and ⟨someN, a1⟩ ?_
  have blk : ∀ o : Nat, o ≤ 6 → o + 101 ≤ m.length → idM m = some (idB (m.drop o)) → wp ((p_X2_digest N g H T s (g + 3) (some (a + 2)) (nI o) (nI o + nI 101) (some (g + 9 + 1)) (nI 0)) ∧ KO_X1_name_30 N g H T (g + 9) (some a) (k_X2_digest N g H T s (g + 3) (some (a + 2)) (nI o) (nI o + nI 101) (some (g + 9 + 1)) (nI 0))) (KF_X1_name_30 N g H T (g + 9) (some a) (k_X2_digest N g H T s (g + 3) (some (a + 2)) (nI o) (nI o + nI 101) (some (g + 9 + 1)) (nI 0))) (fun s' => lkF g a s s' ∧ cI s' 4 a = cI s 4 a ∧ nmC s' a (idM m)) := by
    intro o ho hlen hid
    have hL10 : cL s (g + 9 + 1) = 32 := hS.dgL
    obtain ⟨d1, d2, d3, d4⟩ := digestC (N := N) (g := g) (H := H) (T := T) (s := s) (r := a + 2) (a := o) (b := o + 101) (d := g + 9 + 1) (at_ := 0) (R := m) hN hS hb rh (by omega) (by omega) (by omega) (by unfold isH; omega) (by rw [hL10]; decide) (by rw [hL10]; decide)
    rw [n_add]
    refine wp_and d1 ?_
    have kd : cK s (g + 9 + 1) = 20 := hS.dgK
    have S1 := (kpc_X2_digest hS oH (tK_some q2) (tK_some kd) d1).1
    generalize k_X2_digest N g H T s (g + 3) (some (a + 2)) (nI o) (nI (o + 101)) (some (g + 9 + 1)) (nI 0) = s1 at d2 d3 d4 S1 ⊢
    have hL1 : cL s1 (g + 9 + 1) = 32 := by rw [d2.L]; exact hL10
    have hdB : cB s1 (g + 9 + 1) (shaB (sl m o (o + 101 - o))) := by
      refine ⟨by rw [shaB_len, hL1]; exact Nat.le_refl _, by rw [hL1]; decide, fun i hi => ?_, shaB_B _⟩
      rw [shaB_len] at hi
      refine S1.sb (by rw [d2.1]; exact kd) (shaB_B _ i) ?_
      have := d3 i hi
      rw [Nat.zero_add] at this
      exact this
    unfold KO_X1_name_30 KF_X1_name_30
    rw [zsome a]
    obtain ⟨r1, f, r2, r3⟩ := readId_ok (N := N) (g := g) (H := H) (T := T) (a := a) (i := 0) hdB (by rw [shaB_len, hL1]) (by rw [shaB_len]; exact Nat.le_refl _) (by omega)
    rw [r2]
    refine wp_fin ⟨⟨someN, r1⟩, trivial⟩ ⟨?_, ?_, ?_⟩
    · have l0 : lkF g a s s1 := cfr.lk d2 nfi
      exact (l0.trans (lkF_I (Or.inr rfl))).trans lkF_J
    · show cI (csI s1 5 a (nI 1)) 4 a = _
      rw [cI_other _ _ (Or.inl (by decide))]
      exact d2.I 4 a nfi
    · rw [hid]
      refine ⟨cI_same _ _ _ _, fun k hk => ?_⟩
      show lby (cJ (csJrow (csI s1 5 a (nI 1)) (a + 1) f) (a + 1)) k = _
      rw [cJ_same, r3 k hk, Nat.zero_add]
      unfold idB
      rw [show sl (m.drop o) 0 101 = sl m o (o + 101 - o) by rw [sl_drop, Nat.add_zero, Nat.add_sub_cancel_left]]
  have vt : ¬ bg m 0 = 1 → ¬ bg m 0 = 4 → (bg m 0 = 2 ∨ bg m 0 = 3) → wp (KO_X1_name_58 N g H T (some a) s) (KF_X1_name_58 N g H T (some a) s) (fun s' => lkF g a s s' ∧ cI s' 4 a = cI s 4 a ∧ nmC s' a (idM m)) := by
    intro n1 n4 c
    have hv := (wf23 c).1 hw
    obtain ⟨v1, v2⟩ := at_ok (N := N) (g := g) (H := H) (T := T) (i := 5) h (by omega)
    unfold KO_X1_name_58 KF_X1_name_58
    rw [zsome a, v2]
    refine wp_and ⟨someN, v1⟩ (wp_ite (fun c5 => ?_) (fun c5 => ?_)) <;> rw [n_eq' (by omega) (by omega)] at c5
    · have l38 : m.length = 38 := by rcases hv.2 with z | z <;> omega
      have hrow := hS.row q2 (by omega)
      obtain ⟨r1, f, r2, r3⟩ := readId_ok (N := N) (g := g) (H := H) (T := T) (a := a) (i := 6) hrow (mkB_len _ _) (by rw [mkB_len]; omega) (by omega)
      rw [r2]
      refine wp_fin ⟨r1, trivial⟩ ⟨(lkF_I (Or.inr rfl)).trans lkF_J, ?_, ?_⟩
      · show cI (csI s 5 a (nI 1)) 4 a = _
        rw [cI_other _ _ (Or.inl (by decide))]
      · unfold idM
        rw [if_neg n1, if_neg n4, if_pos ⟨c, c5⟩]
        refine ⟨cI_same _ _ _ _, fun k hk => ?_⟩
        show lby (cJ (csJrow (csI s 5 a (nI 1)) (a + 1) f) (a + 1)) k = _
        rw [cJ_same, r3 k hk, hb.row (by omega), sl_in hk]
    · refine wp_fin trivial ⟨lkF.refl, rfl, ?_⟩
      unfold idM
      rw [if_neg n1, if_neg n4, if_neg (fun z => c5 z.2)]
      exact h5
  by_cases e1 : bg m 0 = 1
  · rw [if_pos e1]
    refine wp_neg (by decide) (blk 6 (by omega) ?_ (by unfold idM; rw [if_pos e1]))
    have := ((wf1 e1).1 hw).2.2.1.1
    rw [List.length_drop] at this
    omega
  · rw [if_neg e1]
    by_cases e4 : bg m 0 = 4
    · rw [if_pos e4]
      refine wp_neg (by decide) (blk 1 (by omega) ?_ (by unfold idM; rw [if_neg e1, if_pos e4]))
      have := ((wf4 e4).1 hw).1
      rw [List.length_drop] at this
      omega
    · rw [if_neg e4]
      refine wp_pos (by decide) (wp_and k1 (wp_ite (fun c2 => ?_) (fun c2 => ?_))) <;> rw [n_eq' (by omega) (by omega)] at c2
      · exact vt e1 e4 (Or.inl c2)
      refine wp_and k1 (wp_ite (fun c3 => ?_) (fun c3 => ?_)) <;> rw [n_eq' (by omega) (by omega)] at c3
      · exact vt e1 e4 (Or.inr c3)
      · refine wp_fin trivial ⟨lkF.refl, rfl, ?_⟩
        unfold idM
        rw [if_neg e1, if_neg e4, if_neg (by omega)]
        exact h5
theorem look_ok (hN : 2100 ≤ N) (hS : St u g H T s) (hT : cI s 1 (g + 9) = nI T) (hT2 : T ≤ 13) (h : mS s a m) (hf : mF T s a m) : wp (p_X1_look N g H T s (g + 9) (some a)) (k_X1_look N g H T s (g + 9) (some a)) (fun z => lkF g a s z.2 ∧ mF T z.2 a m ∧ ((wf T m ∧ z.1 = nI 1 ∧ cI z.2 4 a = nI 1) ∨ (¬ wf T m ∧ z.1 = nI 0))) := by
  obtain ⟨q1, q2, q3, q4⟩ := hS.ms h.1
  have hl := h.L
  have hb := h.2.2.1
  have l0 := h.2.2.2.2.2
  have l1 := h.2.2.2.1
  have nfi : ¬ fiP g a := fiP_no q1
  show wp (KO_X1_look_0 N g H T (g + 9) (some a) s) (KF_X1_look_0 N g H T (g + 9) (some a) s) _
  unfold KO_X1_look_0 KF_X1_look_0
  rw [zsome a, h.2.1]
  refine wp_and someN ?_
  rcases hf with ⟨f1, f2⟩ | ⟨f1, f2, f3⟩ | ⟨f1, f2, f3⟩ <;> rw [f1]
  · obtain ⟨p1, r1, r2⟩ := fits_ok (N := N) hN hS hT hT2 q2 (fiP_no (by omega)) hb l0 hl
    have S1 := (kpc_X1_fits hS oF (tK_some q2) p1).1
    refine wp_pos rfl (wp_neg (by rw [n_le0 (by omega)]; omega) (wp_and p1 ?_))
    generalize k_X1_fits N g H T s (g + 9) (some (a + 2)) (nI m.length) = y at r1 r2 S1 ⊢
    have lk1 : lkF g a s y.2 := cfr.lk r1 nfi
    unfold KO_X1_look_27 KF_X1_look_27
    rcases r2 with ⟨r2, r3⟩ | ⟨r2, r3⟩ <;> rw [r3]
    · refine wp_neg (by decide) ?_
      unfold KO_X1_look_35 KF_X1_look_35
      rw [zsome a, cI_same]
      refine wp_and someN (wp_and someN (wp_pos rfl ?_))
      have lk2 : lkF g a s (csI y.2 4 a (nI 1)) := lk1.trans (lkF_I (Or.inl rfl))
      have h2 : mS (csI y.2 4 a (nI 1)) a m := h.lk hS lk2
      have h25 : cI (csI y.2 4 a (nI 1)) 5 a = nI 0 := by
        rw [cI_other _ _ (Or.inl (by decide)), r1.I 5 a nfi]
        exact f2
      refine wp_call (name_ok hN (S1.I 4 a (nI 1)) h2 r2 h25) (fun q => ?_)
      obtain ⟨x1, x2, x3⟩ := q
      generalize k_X1_name N g H T (csI y.2 4 a (nI 1)) (g + 9) (some a) = s2 at x1 x2 x3 ⊢
      have e4 : cI s2 4 a = nI 1 := by rw [x2]; exact cI_same _ _ _ _
      unfold KO_X1_look_51 KF_X1_look_51
      rw [zsome a, e4]
      exact wp_and someN (wp_pos rfl (wp_fin rfl ⟨lk2.trans x1, Or.inr (Or.inl ⟨e4, r2, x3⟩), Or.inl ⟨r2, rfl, e4⟩⟩))
    · refine wp_pos rfl ?_
      unfold KO_X1_look_34 KF_X1_look_34 KO_X1_look_35 KF_X1_look_35
      rw [zsome a, cI_same]
      refine wp_and someN (wp_and someN (wp_neg (by decide) ?_))
      have lk2 : lkF g a s (csI y.2 4 a (nI 2)) := lk1.trans (lkF_I (Or.inl rfl))
      have h25 : cI (csI y.2 4 a (nI 2)) 5 a = nI 0 := by
        rw [cI_other _ _ (Or.inl (by decide)), r1.I 5 a nfi]
        exact f2
      unfold KO_X1_look_51 KF_X1_look_51
      rw [zsome a, cI_same]
      exact wp_and someN (wp_neg (by decide) (wp_fin rfl ⟨lk2, Or.inr (Or.inr ⟨cI_same _ _ _ _, r2, h25⟩), Or.inr ⟨r2, rfl⟩⟩))
  · refine wp_neg (by decide) ?_
    unfold KO_X1_look_51 KF_X1_look_51
    rw [zsome a, f1]
    exact wp_and someN (wp_pos rfl (wp_fin rfl ⟨lkF.refl, Or.inr (Or.inl ⟨f1, f2, f3⟩), Or.inl ⟨f2, rfl, f1⟩⟩))
  · refine wp_neg (by decide) ?_
    unfold KO_X1_look_51 KF_X1_look_51
    rw [zsome a, f1]
    exact wp_and someN (wp_neg (by decide) (wp_fin rfl ⟨lkF.refl, Or.inr (Or.inr ⟨f1, f2, f3⟩), Or.inr ⟨f2, rfl⟩⟩))
end
end
