section
/-! THE CLASS TELLS WHAT IS WELL FORMED -/
section
variable {N g H T r a e f : Nat} {s : cS} {b : List Nat}
theorem evC_ok {b : List Nat} {a : Nat} : (0 ≤ evC b a b.length ∧ evC b a b.length = evSz b a) ∨ evC b a b.length = -1 := by
  unfold evC evSz
  by_cases c1 : a + 39 ≤ b.length ∧ bg b (a + 5) = 0 ∧ bg b (a + 6) = 1
  · rw [if_pos c1, if_neg (by omega)]; left; omega
  · rw [if_neg c1]
    by_cases c2 : a + 71 ≤ b.length ∧ bg b (a + 5) = 1 ∧ bg b (a + 38) = 1
    · rw [if_pos c2, if_pos (by omega)]; left; omega
    · rw [if_neg c2]; right; rfl
theorem evidenceFits_ok (h : cB s r b) (hT : cI s 1 f = nI T) (hT2 : T ≤ 13) (hN : 100 ≤ N) (ha : a ≤ 3000) : wp (p_X1_evidenceFits N g H T s f (some r) (nI a) (nI b.length)) (k_X1_evidenceFits N g H T s f (some r) (nI a) (nI b.length)) (fun v => (evOK T b a ∧ v = nI (a + evSz b a)) ∨ (¬ evOK T b a ∧ v = -1)) := by
  have h1 := h.1
  have h2 := h.2.1
  have h4 := h.2.2.2
  have t0 := h4 a
  have t1 := h4 (a + 1)
  have t4 := h4 (a + 4)
  obtain ⟨a1, a2⟩ := evidenceSize_ok (N := N) (g := g) (H := H) (T := T) (a := a) (e := b.length) h (Nat.le_refl _) ha
  have no : ∀ {P : Prop}, (evOK T b a → False) → ((evOK T b a ∧ P) ∨ (¬ evOK T b a ∧ (-1 : Int32) = -1)) := fun q => Or.inr ⟨q, rfl⟩
  show wp (KO_X1_evidenceFits_0 N g H T f (some r) (nI a) (nI b.length) s) (KF_X1_evidenceFits_0 N g H T f (some r) (nI a) (nI b.length) s) _
  unfold KO_X1_evidenceFits_0 KF_X1_evidenceFits_0
  rw [a2, hT]
  simp only [zsome, n_add]
  refine wp_and a1 ?_
  by_cases c : a + 39 ≤ b.length ∧ ((bg b (a + 5) = 0 ∧ bg b (a + 6) = 1) ∨ (a + 71 ≤ b.length ∧ bg b (a + 5) = 1 ∧ bg b (a + 38) = 1))
  · have hv : evC b a b.length = evSz b a := by
      unfold evC evSz
      by_cases c1 : a + 39 ≤ b.length ∧ bg b (a + 5) = 0 ∧ bg b (a + 6) = 1
      · rw [if_pos c1, if_neg (by omega)]; rfl
      · rw [if_neg c1, if_pos (by omega), if_pos (by omega)]; rfl
    have sz := evSz_le b a
    rw [hv, iI_n]
    rw [h.an (a := a) (by omega), h.at_ (a := a + 1) (by omega), h.an (a := a + 4) (by omega)]
    refine wp_neg (n_lt0 (by omega)) (wp_and ⟨someN, ((n_in (by omega)).2 (by omega))⟩ (wp_ite (fun c1 => ?_) (fun c1 => ?_))) <;> rw [n_le' (by omega) (by omega)] at c1
    · exact wp_fin trivial (no fun q => by have := q.2.1; omega)
    refine wp_and ⟨someN, ((n_in (by omega)).2 (by omega))⟩ (wp_ite (fun c2 => ?_) (fun c2 => ?_)) <;> rw [sb_lt (by omega) (by omega)] at c2
    · exact wp_fin trivial (no fun q => by have := q.2.2; omega)
    refine wp_and ⟨someN, ((n_in (by omega)).2 (by omega))⟩ (wp_ite (fun c3 => ?_) (fun c3 => ?_)) <;> rw [sb_le (by omega) (by omega)] at c3
    rotate_left
    · exact wp_fin trivial (no fun q => by have := q.2.2.2.1; omega)
    obtain ⟨d1, d2⟩ := heightFits_ok (N := N) (g := g) (H := H) (T := T) (a := a + 2) h (by omega)
    refine wp_and d1 ?_
    rcases d2 with ⟨d2, d3⟩ | ⟨d2, d3⟩ <;> rw [d3]
    rotate_left
    · exact wp_pos rfl (wp_fin trivial (no fun q => d2 q.2.2.2.2.1))
    refine wp_neg (by decide) (wp_and ⟨someN, ((n_in (by omega)).2 (by omega))⟩ (wp_ite (fun c4 => ?_) (fun c4 => ?_))) <;> rw [n_lt' (by omega) (by omega)] at c4
    rotate_left
    · exact wp_fin trivial (no fun q => by have := q.2.2.2.2.2.1; omega)
    refine wp_ite (fun c5 => ?_) (fun c5 => ?_) <;> rw [n_eq' (by omega) (by omega)] at c5
    · have c6 : bg b (a + 5) = 0 ∧ bg b (a + 6) = 1 := by
        unfold evSz at c5
        by_cases z : bg b (a + 5) = 1
        · rw [if_pos z] at c5; omega
        · omega
      refine wp_and ⟨someN, ((n_in (by omega)).2 (by omega))⟩ (wp_ite (fun c7 => ?_) (fun c7 => ?_)) <;> rw [sb_eq (by omega) (by omega)] at c7
      · refine wp_fin ⟨fun _ => trivial, fun _ => trivial⟩ (no fun q => ?_)
        rcases q.2.2.2.2.2.2 with z | z <;> omega
      · refine wp_fin ⟨fun _ => trivial, fun _ => trivial⟩ (Or.inl ⟨⟨c.1, (by omega), (by omega), (by omega), d2, (by omega), Or.inl ⟨c6.1, c6.2, (by omega)⟩⟩, ?_⟩)
        show nI a + nI (evSz b a) = _
        rw [n_add]
    · have c6 : a + 71 ≤ b.length ∧ bg b (a + 5) = 1 ∧ bg b (a + 38) = 1 := by
        unfold evSz at c5
        by_cases z : bg b (a + 5) = 1
        · omega
        · rw [if_neg z] at c5; omega
      obtain ⟨u1, u2⟩ := isLessC_ok (N := N) (g := g) (H := H) (T := T) (p := a + 6) (q := a + 7 + 32) h hN (by omega) (by omega)
      refine wp_and u1 ?_
      rcases u2 with ⟨u2, u3⟩ | ⟨u2, u3⟩ <;> rw [u3]
      · refine wp_fin ⟨fun _ => trivial, fun _ => trivial⟩ (Or.inl ⟨⟨c.1, (by omega), (by omega), (by omega), d2, (by omega), Or.inr ⟨c6.2.1, c6.1, c6.2.2, u2⟩⟩, ?_⟩)
        show nI a + nI (evSz b a) = _
        rw [n_add]
      · refine wp_fin ⟨fun _ => trivial, fun _ => trivial⟩ (no fun q => ?_)
        rcases q.2.2.2.2.2.2 with z | z
        · omega
        · exact u2 z.2.2.2
  · have hv : evC b a b.length = -1 := by
      unfold evC
      rw [if_neg (by omega), if_neg (by omega)]
    rw [hv]
    refine wp_pos (by decide) (wp_fin trivial (no fun q => c ⟨q.1, ?_⟩))
    rcases q.2.2.2.2.2.2 with z | z
    · left; omega
    · right; omega
theorem snapshotFits_ok (h : cB s r b) (hl : b.length = 115) (hN : 100 ≤ N) : wp (p_X1_snapshotFits N g H T s (some r)) (k_X1_snapshotFits N g H T s (some r)) (fun v => (snOK b ∧ v = nI 1) ∨ (¬ snOK b ∧ v = nI 0)) := by
  have h1 := h.1
  have h2 := h.2.1
  have h4 := h.2.2.2
  have tt := tw_lt h4 1
  obtain ⟨a1, a2⟩ := twoBytes_ok (N := N) (g := g) (H := H) (T := T) (a := 1) h (by omega)
  show wp (KO_X1_snapshotFits_0 N g H T (some r) s) (KF_X1_snapshotFits_0 N g H T (some r) s) _
  unfold KO_X1_snapshotFits_0 KF_X1_snapshotFits_0
  rw [a2]
  refine wp_and a1 (wp_ite (fun c => ?_) (fun c => ?_)) <;> rw [n_lt' (by omega) (by omega)] at c
  · exact wp_fin trivial (Or.inr ⟨fun q => by have := q.2.1; omega, rfl⟩)
  refine wp_ite (fun c1 => ?_) (fun c1 => ?_) <;> rw [n_le' (by omega) (by omega)] at c1
  rotate_left
  · exact wp_fin trivial (Or.inr ⟨fun q => by have := q.2.2.1; omega, rfl⟩)
  refine wp_seq (Q := fun z : Nat × Unit => (z.1 = 0 ∧ ¬ snOK b) ∨ (z.1 = 1 ∧ snOK b)) ?_ ?_
  · refine wp_loop (K := 16) (fun j (_ : Unit) => ∀ i, i < j → tw b (35 + 5 * i) ≤ 16000 ∧ bg b (39 + 5 * i) ≤ 1) (fun n j _ => KOL_X1_snapshotFits_24 N g H T n (some r) (nI j) (nI (35 + 5 * j)) s) (fun n j _ => KL_X1_snapshotFits_24 N g H T n (some r) (nI j) (nI (35 + 5 * j)) s) (fun n j u hj hI ih => ?_) 0 N () (by omega) (by omega) (fun i hi => absurd hi (by omega))
    unfold KOL_X1_snapshotFits_24 KL_X1_snapshotFits_24 KOB_X1_snapshotFits_24 KB_X1_snapshotFits_24
    by_cases e : j = 16
    · refine wp_pos (by rw [n_le' (by omega) (by omega)]; omega) ?_
      subst e
      exact wp_fin trivial (Or.inr ⟨rfl, hl, (by omega), (by omega), hI⟩)
    · have t3 := h4 (39 + 5 * j)
      have tj := tw_lt h4 (35 + 5 * j)
      obtain ⟨b1, b2⟩ := twoBytes_ok (N := N) (g := g) (H := H) (T := T) (a := 35 + 5 * j) h (by omega)
      rw [b2]
      simp only [zsome, n_add]
      rw [show 35 + 5 * j + 4 = 39 + 5 * j by omega, h.at_ (a := 39 + 5 * j) (by omega)]
      refine wp_neg (by rw [n_le' (by omega) (by omega)]; omega) (wp_and b1 (wp_ite (fun c2 => ?_) (fun c2 => ?_))) <;> rw [n_lt' (by omega) (by omega)] at c2
      · exact wp_fin trivial (Or.inl ⟨rfl, fun q => by have := q.2.2.2 j (by omega); omega⟩)
      have go : bg b (39 + 5 * j) ≤ 1 → wp (KO_X1_snapshotFits_60 N g H T (fun x0 x2 x3 => KOL_X1_snapshotFits_24 N g H T n x0 x2 x3 s) (some r) (nI j) (nI (35 + 5 * j)) s) (KF_X1_snapshotFits_60 N g H T (fun x0 x2 x3 => KL_X1_snapshotFits_24 N g H T n x0 x2 x3 s) (some r) (nI j) (nI (35 + 5 * j)) s) (fun z : Nat × Unit => (z.1 = 0 ∧ ¬ snOK b) ∨ (z.1 = 1 ∧ snOK b)) := by
        intro c3
        unfold KO_X1_snapshotFits_60 KF_X1_snapshotFits_60
        rw [n_add, n_add, show 35 + 5 * j + 5 = 35 + 5 * (j + 1) by omega]
        refine ih () (fun i hi => ?_) (by omega)
        by_cases e2 : i = j
        · rw [e2]; omega
        · exact hI i (by omega)
      refine wp_and ⟨someN, ((n_in (by omega)).2 (by omega))⟩ (wp_ite (fun c3 => ?_) (fun c3 => ?_)) <;> rw [sb_eq0 (by omega)] at c3
      · exact go (by omega)
      refine wp_and ⟨someN, ((n_in (by omega)).2 (by omega))⟩ (wp_ite (fun c4 => ?_) (fun c4 => ?_)) <;> rw [sb_eq (by omega) (by omega)] at c4
      · exact go (by omega)
      · exact wp_fin trivial (Or.inl ⟨rfl, fun q => by have := q.2.2.2 j (by omega); omega⟩)
  · rintro z (⟨z1, z2⟩ | ⟨z1, z2⟩) <;> unfold KOA_X1_snapshotFits_24 KA_X1_snapshotFits_24
    · rw [if_pos z1, if_pos z1]
      exact wp_fin trivial (Or.inr ⟨z2, rfl⟩)
    · rw [if_neg (by omega), if_neg (by omega)]
      exact wp_fin trivial (Or.inl ⟨z2, rfl⟩)
theorem signFits_ok (h : cB s r b) (hT : cI s 1 f = nI T) (hT2 : T ≤ 13) (hl : 5 ≤ b.length) : wp (p_X1_signFits N g H T s f (some r)) (k_X1_signFits N g H T s f (some r)) (fun v => (sgOK T b ∧ v = nI 1) ∨ (¬ sgOK T b ∧ v = nI 0)) := by
  have h1 := h.1
  have h2 := h.2.1
  have h4 := h.2.2.2
  have t1 := h4 1
  have t4 := h4 4
  obtain ⟨d1, d2⟩ := heightFits_ok (N := N) (g := g) (H := H) (T := T) (a := 2) h (by omega)
  show wp (KO_X1_signFits_0 N g H T f (some r) s) (KF_X1_signFits_0 N g H T f (some r) s) _
  unfold KO_X1_signFits_0 KF_X1_signFits_0
  rw [zsome r]
  rw [hT, h.an (a := 1) (by omega), h.an (a := 4) (by omega)]
  refine wp_and ⟨someN, ((n_in (by omega)).2 (by omega))⟩ (wp_ite (fun c1 => ?_) (fun c1 => ?_)) <;> rw [n_le' (by omega) (by omega)] at c1
  · exact wp_fin rfl (Or.inr ⟨fun q => by have := q.1; omega, rfl⟩)
  refine wp_and d1 ?_
  rcases d2 with ⟨d2, d3⟩ | ⟨d2, d3⟩ <;> rw [d3]
  rotate_left
  · exact wp_pos rfl (wp_fin rfl (Or.inr ⟨fun q => d2 q.2.1, rfl⟩))
  refine wp_neg (by decide) (wp_and ⟨someN, ((n_in (by omega)).2 (by omega))⟩ (wp_ite (fun c2 => ?_) (fun c2 => ?_))) <;> rw [n_le' (by omega) (by omega)] at c2
  · exact wp_fin rfl (Or.inr ⟨fun q => by have := q.2.2; omega, rfl⟩)
  · exact wp_fin rfl (Or.inl ⟨⟨(by omega), d2, (by omega)⟩, rfl⟩)
theorem sameBytes_ok {x y p q n : Nat} {bx by_ : List Nat} (hx : cB s x bx) (hy : cB s y by_) (hN : n < N) (hp : p + n ≤ bx.length) (hq : q + n ≤ by_.length) : wp (p_X11_sameBytes N g H T s (some x) (nI p) (some y) (nI q) (nI n)) (k_X11_sameBytes N g H T s (some x) (nI p) (some y) (nI q) (nI n)) (fun v => ((∀ i, i < n → bg bx (p + i) = bg by_ (q + i)) ∧ v = nI 1) ∨ (¬ (∀ i, i < n → bg bx (p + i) = bg by_ (q + i)) ∧ v = nI 0)) := by
  have x1 := hx.1
  have x2 := hx.2.1
  have y1 := hy.1
  have y2 := hy.2.1
  show wp (KO_X11_sameBytes_0 N g H T (some x) (nI p) (some y) (nI q) (nI n) s) (KF_X11_sameBytes_0 N g H T (some x) (nI p) (some y) (nI q) (nI n) s) _
  unfold KO_X11_sameBytes_0 KF_X11_sameBytes_0
  rw [zsome x, zsome y]
  rw [n_sub (by omega), n_sub (by omega)]
  refine wp_neg (n_lt0 (by omega)) (wp_neg (n_lt0 (by omega)) (wp_and someN (wp_neg (by rw [n_lt' (by omega) (by omega)]; omega) (wp_and someN (wp_pos (by rw [n_le' (by omega) (by omega)]; omega) ?_)))))
  refine wp_seq (Q := fun z : Nat × Unit => (z.1 = 0 ∧ ¬ (∀ i, i < n → bg bx (p + i) = bg by_ (q + i))) ∨ (z.1 = 1 ∧ ∀ i, i < n → bg bx (p + i) = bg by_ (q + i))) ?_ ?_
  · refine wp_loop (K := n) (fun j (_ : Unit) => ∀ i, i < j → bg bx (p + i) = bg by_ (q + i)) (fun n' j _ => KOL_X11_sameBytes_31 N g H T n' (some x) (nI p) (some y) (nI q) (nI n) (nI j) s) (fun n' j _ => KL_X11_sameBytes_31 N g H T n' (some x) (nI p) (some y) (nI q) (nI n) (nI j) s) (fun n' j u hj hI ih => ?_) 0 N () (by omega) (by omega) (fun i hi => absurd hi (by omega))
    unfold KOL_X11_sameBytes_31 KL_X11_sameBytes_31 KOB_X11_sameBytes_31 KB_X11_sameBytes_31
    by_cases e : j = n
    · refine wp_pos (by rw [n_le' (by omega) (by omega)]; omega) ?_
      subst e
      exact wp_fin trivial (Or.inr ⟨rfl, hI⟩)
    · simp only [zsome, n_add]
      rw [hx.at_ (a := p + j) (by omega), hy.at_ (a := q + j) (by omega)]
      refine wp_neg (by rw [n_le' (by omega) (by omega)]; omega) (wp_and ⟨someN, ((n_in (by omega)).2 (by omega))⟩ (wp_and ⟨someN, ((n_in (by omega)).2 (by omega))⟩ (wp_ite (fun c => ?_) (fun c => ?_)))) <;> rw [sb_inj (hx.2.2.2 _) (hy.2.2.2 _)] at c
      · exact ih () (fun i hi => by
          by_cases e2 : i = j
          · rw [e2]; exact c
          · exact hI i (by omega)) (by omega)
      · exact wp_fin trivial (Or.inl ⟨rfl, fun q => c (q j (by omega))⟩)
  · rintro z (⟨z1, z2⟩ | ⟨z1, z2⟩) <;> unfold KOA_X11_sameBytes_31 KA_X11_sameBytes_31
    · rw [if_pos z1, if_pos z1]
      exact wp_fin trivial (Or.inr ⟨z2, rfl⟩)
    · rw [if_neg (by omega), if_neg (by omega)]
      exact wp_fin trivial (Or.inl ⟨z2, rfl⟩)
end
end
