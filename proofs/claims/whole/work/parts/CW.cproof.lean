section
/-! CALLS OF THE CLASS: a way to a root is checked -/
section
variable {F N g H T n k h : Nat} {s s0 s1 S X : cS} {ct : Nat → List Nat} {hd : List Nat} {w w' V W : Wd} {pe : Nat → Int} {a b : Nat} {l m d : List Nat} {x y u v : Int32}
/-- a row holds bytes from a place on -/
def byR (S : cS) (r a : Nat) (X : List Nat) : Prop := ∀ i, i < X.length → cA S r (a + i) &&& nI 255 = nI (bg X i)
/-- two rows of bytes are joined under a digest -/
theorem join_c {A B : List Nat} {r1 a1 r2 a2 d : Nat} (hN : 1200 ≤ N) (hh : hL S h) (h1 : r1 ≠ h + 1) (h2 : r2 ≠ h + 1) (lA : A.length = 32) (lB : B.length = 32) (l1 : a1 + 32 ≤ cL S r1) (l2 : a2 + 32 ≤ cL S r2) (q1 : cL S r1 ≤ 3000) (q2 : cL S r2 ≤ 3000) (bA : byR S r1 a1 A) (bB : byR S r2 a2 B) (hd : ¬ isH h d) (ld : 32 ≤ cL S d) (qd : cL S d ≤ 3000) : p_X2_open N g H T S h ∧ p_X2_add N g H T (k_X2_open N g H T S h) h (nI 1) ∧ p_X2_add_ N g H T (k_X2_add N g H T (k_X2_open N g H T S h) h (nI 1)) h (some r1) (nI a1) (nI (a1 + 32)) ∧ p_X2_add_ N g H T (k_X2_add_ N g H T (k_X2_add N g H T (k_X2_open N g H T S h) h (nI 1)) h (some r1) (nI a1) (nI (a1 + 32))) h (some r2) (nI a2) (nI (a2 + 32)) ∧ p_X2_close N g H T (k_X2_add_ N g H T (k_X2_add_ N g H T (k_X2_add N g H T (k_X2_open N g H T S h) h (nI 1)) h (some r1) (nI a1) (nI (a1 + 32))) h (some r2) (nI a2) (nI (a2 + 32))) h (some d) (nI 0) ∧ cfr (fun x => isH h x ∨ x = d) S (k_X2_close N g H T (k_X2_add_ N g H T (k_X2_add_ N g H T (k_X2_add N g H T (k_X2_open N g H T S h) h (nI 1)) h (some r1) (nI a1) (nI (a1 + 32))) h (some r2) (nI a2) (nI (a2 + 32))) h (some d) (nI 0)) ∧ byR (k_X2_close N g H T (k_X2_add_ N g H T (k_X2_add_ N g H T (k_X2_add N g H T (k_X2_open N g H T S h) h (nI 1)) h (some r1) (nI a1) (nI (a1 + 32))) h (some r2) (nI a2) (nI (a2 + 32))) h (some d) (nI 0)) d 0 (shaB (1 :: (A ++ B))) := by
  obtain ⟨o1, o2⟩ := open_ok (N := N) (g := g) (H := H) (T := T) (h := h) S (fun _ => 0)
  obtain ⟨p1, p2⟩ := add_ok (N := N) (g := g) (H := H) (T := T) (nI 1) o2 (by decide)
  obtain ⟨s1, s2⟩ := addR_ok (N := N) (g := g) (H := H) (T := T) (r := r1) (a := a1) (b := a1 + 32) p2 h1 (by omega) l1 (by omega) (by omega)
  obtain ⟨t1, t2⟩ := addR_ok (N := N) (g := g) (H := H) (T := T) (r := r2) (a := a2) (b := a2 + 32) s2 h2 (by omega) l2 (by omega) (by omega)
  obtain ⟨e1, e2, e3, e4, -, -⟩ := closeF (N := N) (g := g) (H := H) (T := T) (r := d) (at_ := 0) hN t2 (by omega) hh.1 hh.2.1 (by unfold isH at hd; omega) (by omega) (by omega)
  refine ⟨o1, p1, s1, t1, e1, e2, fun i hi => ?_⟩
  rw [shaB_len] at hi
  refine (e3 i hi).trans ?_
  have lc : (1 :: (A ++ B)).length = 65 := by
    show (A ++ B).length + 1 = 65
    rw [List.length_append]
    omega
  refine shaB_of (by omega) (fun k hk => ?_) hi
  by_cases c : k < 33
  · rw [if_pos (by omega)]
    by_cases c0 : k = 0
    · rw [c0, if_pos (by omega), if_pos rfl]
      show nI 1 &&& nI 255 = nI 1
      decide
    · rw [if_neg (by omega)]
      have e : bg (1 :: (A ++ B)) k = bg A (k - 1) := by
        obtain ⟨j, rfl⟩ : ∃ j, k = j + 1 := ⟨k - 1, by omega⟩
        show bg (A ++ B) j = bg A j
        rw [bg_app, if_pos (by omega)]
      rw [e, show a1 + (k - (0 + 1)) = a1 + (k - 1) by omega]
      exact bA (k - 1) (by omega)
  · rw [if_neg (by omega)]
    have e : bg (1 :: (A ++ B)) k = bg B (k - 33) := by
      obtain ⟨j, rfl⟩ : ∃ j, k = j + 1 := ⟨k - 1, by omega⟩
      show bg (A ++ B) j = bg B (j + 1 - 33)
      rw [bg_app, if_neg (by omega), lA, show j + 1 - 33 = j - 32 by omega]
    rw [e, show a2 + (k - (0 + 1 + (a1 + 32 - a1))) = a2 + (k - 33) by omega]
    exact bB (k - 33) (by omega)
theorem join_S {r1 r2 : Nat} {e1 e2 e3 e4 : Int32} (hS : St 0 g H T S) (h1 : r1 = g + 1 ∨ r1 = g + 2) (h2 : r2 = g + 1 ∨ r2 = g + 2) (j1 : p_X2_open N g H T S (g + 3)) (j2 : p_X2_add N g H T (k_X2_open N g H T S (g + 3)) (g + 3) (nI 1)) (j3 : p_X2_add_ N g H T (k_X2_add N g H T (k_X2_open N g H T S (g + 3)) (g + 3) (nI 1)) (g + 3) (some r1) e1 e2) (j4 : p_X2_add_ N g H T (k_X2_add_ N g H T (k_X2_add N g H T (k_X2_open N g H T S (g + 3)) (g + 3) (nI 1)) (g + 3) (some r1) e1 e2) (g + 3) (some r2) e3 e4) (j5 : p_X2_close N g H T (k_X2_add_ N g H T (k_X2_add_ N g H T (k_X2_add N g H T (k_X2_open N g H T S (g + 3)) (g + 3) (nI 1)) (g + 3) (some r1) e1 e2) (g + 3) (some r2) e3 e4) (g + 3) (some (g + 2)) (nI 0)) : St 0 g H T (k_X2_close N g H T (k_X2_add_ N g H T (k_X2_add_ N g H T (k_X2_add N g H T (k_X2_open N g H T S (g + 3)) (g + 3) (nI 1)) (g + 3) (some r1) e1 e2) (g + 3) (some r2) e3 e4) (g + 3) (some (g + 2)) (nI 0)) := by
  have row : ∀ {Y : cS} {r : Nat}, St 0 g H T Y → (r = g + 1 ∨ r = g + 2) → tK Y 20 (some r) := fun hY hr => by
    rcases hr with rfl | rfl
    · exact tK_some (tape_L hY).2.1
    · exact tK_some (tape_L hY).2.2.2
  have s1 := (kpc_X2_open hS oH j1).1
  have s2 := (kpc_X2_add s1 oH j2).1
  have s3 := (kpc_X2_add_ s2 oH (row s2 h1) j3).1
  have s4 := (kpc_X2_add_ s3 oH (row s3 h2) j4).1
  exact (kpc_X2_close s4 oH (row s4 (Or.inr rfl)) j5).1
/-- the walk -/
theorem proof_l {z1 : Int32} (hN : 12000 ≤ N) (st : St 0 g H T s) (tb : cB s (g + 1) l) (hn : n ≤ l.length) (hl : l.length ≤ 1000) : ∀ (f q p : Nat) (S : cS) (d : List Nat), f < q → 1 ≤ f → n + 1 ≤ p + f → 1 ≤ p → p ≤ 1000 → St 0 g H T S → isB d → cfr (fun x => isH (g + 3) x ∨ x = g + 2) s S → d.length = 32 → byR S (g + 2) 0 d → wp (KOL_X11_proof_75 N g H T q g z1 (nI n) (g + 3) (nI p) S) (KL_X11_proof_75 N g H T q g z1 (nI n) (g + 3) (nI p) S) (fun z => cfr (fun x => isH (g + 3) x ∨ x = g + 2) s z.2.2.2 ∧ St 0 g H T z.2.2.2 ∧ ((z.1 = 0 ∧ pfW l n f p d = none) ∨ (z.1 = 1 ∧ z.2.1 = g ∧ z.2.2.1 = z1 ∧ ∃ d', pfW l n f p d = some d' ∧ d'.length = 32 ∧ byR z.2.2.2 (g + 2) 0 d' ∧ isB d' ∧ St 0 g H T z.2.2.2)))
  | 0, q, p, S, d, hq, h1, hf, p1, hp, sS, dB, fr, dl, db => absurd h1 (by omega)
  | f + 1, q, p, S, d, hq, h1, hf, p1, hp, sS, dB, fr, dl, db => by
    obtain ⟨q, rfl⟩ := exs (show 0 < q by omega)
    have eW : pfW l n (f + 1) p d = if n ≤ p then some d else if 2 < bg l p then none else if 0 < bg l p ∧ ¬ p + 33 ≤ n then none else pfW l n f (p + if bg l p = 0 then 1 else 33) (pfN l p (bg l p) d) := rfl
    unfold KOL_X11_proof_75 KL_X11_proof_75 KOB_X11_proof_75 KB_X11_proof_75
    by_cases c : n ≤ p
    · rw [eW, if_pos c]
      exact wp_pos (by rw [n_le' (by omega) (by omega)]; exact c) (wp_fin trivial ⟨fr, sS, Or.inr ⟨rfl, rfl, rfl, d, rfl, dl, db, dB, sS⟩⟩)
    have tL := tape_L st
    have hh := (hL_of st).fr fr
    have eb : cA S (g + 1) p = sb (bg l p) := by
      rw [fr.A (g + 1) (by unfold isH; omega)]
      exact tb.2.2.1 p (by omega)
    have b8 := tb.2.2.2 p
    rw [if_neg c] at eW
    rw [n_clamp (by omega), eb, n_add]
    refine wp_neg (by rw [n_le' (by omega) (by omega)]; exact c) (wp_and ((n_in (by omega)).2 (by omega)) ?_)
    by_cases c0 : bg l p = 0
    · rw [if_neg (by omega), if_neg (by omega), if_pos c0] at eW
      have e0 : pfN l p (bg l p) d = d := if_pos c0
      rw [eW, e0]
      exact wp_pos (by rw [sb_eq0 b8]; exact c0) (proof_l hN st tb hn hl f q (p + 1) S d (by omega) (by omega) (by omega) (by omega) (by omega) sS dB fr dl db)
    refine wp_neg (by rw [sb_eq0 b8]; exact c0) ?_
    -- a side
    have side : ∀ (z : Int32) (e : Nat), e = bg l p → z = nI e → (e = 1 ∨ e = 2) → wp (KO_X11_proof_113 N g H T (KOL_X11_proof_75 N g H T q) g z1 (nI n) (g + 3) (nI (p + 1)) z S) (KF_X11_proof_113 N g H T (KL_X11_proof_75 N g H T q) g z1 (nI n) (g + 3) (nI (p + 1)) z S) (fun z => cfr (fun x => isH (g + 3) x ∨ x = g + 2) s z.2.2.2 ∧ St 0 g H T z.2.2.2 ∧ ((z.1 = 0 ∧ pfW l n (f + 1) p d = none) ∨ (z.1 = 1 ∧ z.2.1 = g ∧ z.2.2.1 = z1 ∧ ∃ d', pfW l n (f + 1) p d = some d' ∧ d'.length = 32 ∧ byR z.2.2.2 (g + 2) 0 d' ∧ isB d' ∧ St 0 g H T z.2.2.2))) := fun z e ee ez he => by
      rw [if_neg (by omega)] at eW
      unfold KO_X11_proof_113 KF_X11_proof_113
      have lq : nI 32 ≤ nI n - nI (p + 1) ↔ p + 33 ≤ n := by
        rw [← iI_n, ← iI_n, ← iI_n, iI_sub, iI_le (by omega) (by omega) (by omega) (by omega)]
        omega
      by_cases c3 : p + 33 ≤ n
      rotate_left
      · rw [if_pos ⟨by omega, c3⟩] at eW
        rw [eW]
        exact wp_neg (fun z => c3 (lq.1 z)) (wp_fin trivial ⟨fr, sS, Or.inl ⟨rfl, rfl⟩⟩)
      rw [if_neg (fun z => z.2 c3), if_neg c0, ← ee] at eW
      rw [eW]
      refine wp_pos (lq.2 c3) ?_
      have L1 : cL S (g + 1) = 1000 := by rw [fr.L]; exact tL.1
      have L2 : cL S (g + 2) = 1024 := by rw [fr.L]; exact tL.2.2.1
      have bT : byR S (g + 1) (p + 1) (sl l (p + 1) 32) := fun i hi => by
        rw [sl_len] at hi
        rw [fr.A (g + 1) (by unfold isH; omega), tb.2.2.1 (p + 1 + i) (by omega), sl_in hi]
        exact sb_and _ (tb.2.2.2 _)
      have go : ∀ (S' : cS) (dd : List Nat), St 0 g H T S' → cfr (fun x => isH (g + 3) x ∨ x = g + 2) S S' → dd.length = 32 → byR S' (g + 2) 0 dd → dd = pfN l p e d → wp (KO_X11_proof_245 N g H T (KOL_X11_proof_75 N g H T q) g z1 (nI n) (g + 3) (nI (p + 1)) S') (KF_X11_proof_245 N g H T (KL_X11_proof_75 N g H T q) g z1 (nI n) (g + 3) (nI (p + 1)) S') (fun z => cfr (fun x => isH (g + 3) x ∨ x = g + 2) s z.2.2.2 ∧ St 0 g H T z.2.2.2 ∧ ((z.1 = 0 ∧ pfW l n f (p + 33) (pfN l p e d) = none) ∨ (z.1 = 1 ∧ z.2.1 = g ∧ z.2.2.1 = z1 ∧ ∃ d', pfW l n f (p + 33) (pfN l p e d) = some d' ∧ d'.length = 32 ∧ byR z.2.2.2 (g + 2) 0 d' ∧ isB d' ∧ St 0 g H T z.2.2.2))) := fun S' dd sS' f1 l1 b1 e1 => by
        unfold KO_X11_proof_245 KF_X11_proof_245
        rw [n_add, show p + 1 + 32 = p + 33 by omega, ← e1]
        exact proof_l hN st tb hn hl f q (p + 33) S' dd (by omega) (by omega) (by omega) (by omega) (by omega) sS' (by rw [e1]; exact pfN_B dB) (fr.trans f1) l1 b1
      rcases he with he | he
      · have y1 : z = nI 1 := by rw [ez, he]
        obtain ⟨j1, j2, j3, j4, j5, j6, j7⟩ := join_c (N := N) (g := g) (H := H) (T := T) (S := S) (h := g + 3) (r1 := g + 1) (a1 := p + 1) (r2 := g + 2) (a2 := 0) (d := g + 2) (A := sl l (p + 1) 32) (B := d) (by omega) hh (by omega) (by omega) (sl_len _ _ _) dl (by omega) (by omega) (by omega) (by omega) bT db (by unfold isH; omega) (by omega) (by omega)
        refine wp_and j1 ?_
        unfold KO_X11_proof_129 KF_X11_proof_129
        refine wp_and j2 ?_
        unfold KO_X11_proof_135 KF_X11_proof_135
        refine wp_pos y1 ?_
        unfold KO_X11_proof_154 KF_X11_proof_154
        refine wp_pos y1 ?_
        unfold KO_X11_proof_166 KF_X11_proof_166
        refine wp_pos y1 ?_
        unfold KO_X11_proof_182 KF_X11_proof_182
        rw [n_add]
        refine wp_and j3 ?_
        unfold KO_X11_proof_185 KF_X11_proof_185
        refine wp_pos y1 ?_
        unfold KO_X11_proof_204 KF_X11_proof_204
        refine wp_pos y1 ?_
        unfold KO_X11_proof_216 KF_X11_proof_216
        refine wp_pos y1 ?_
        unfold KO_X11_proof_232 KF_X11_proof_232
        refine wp_and j4 ?_
        unfold KO_X11_proof_235 KF_X11_proof_235
        refine wp_and j5 (go _ _ (join_S sS (Or.inl rfl) (Or.inr rfl) j1 j2 j3 j4 j5) j6 (shaB_len _) j7 ?_)
        unfold pfN
        rw [if_neg (by omega), if_pos he]
      · have y1 : ¬ z = nI 1 := by rw [ez, he]; decide
        obtain ⟨j1, j2, j3, j4, j5, j6, j7⟩ := join_c (N := N) (g := g) (H := H) (T := T) (S := S) (h := g + 3) (r1 := g + 2) (a1 := 0) (r2 := g + 1) (a2 := p + 1) (d := g + 2) (A := d) (B := sl l (p + 1) 32) (by omega) hh (by omega) (by omega) dl (sl_len _ _ _) (by omega) (by omega) (by omega) (by omega) db bT (by unfold isH; omega) (by omega) (by omega)
        refine wp_and j1 ?_
        unfold KO_X11_proof_129 KF_X11_proof_129
        refine wp_and j2 ?_
        unfold KO_X11_proof_135 KF_X11_proof_135
        refine wp_neg y1 ?_
        unfold KO_X11_proof_154 KF_X11_proof_154
        refine wp_neg y1 ?_
        unfold KO_X11_proof_166 KF_X11_proof_166
        refine wp_neg y1 ?_
        unfold KO_X11_proof_182 KF_X11_proof_182
        refine wp_and j3 ?_
        unfold KO_X11_proof_185 KF_X11_proof_185
        refine wp_neg y1 ?_
        unfold KO_X11_proof_204 KF_X11_proof_204
        refine wp_neg y1 ?_
        unfold KO_X11_proof_216 KF_X11_proof_216
        refine wp_neg y1 ?_
        unfold KO_X11_proof_232 KF_X11_proof_232
        rw [n_add]
        refine wp_and j4 ?_
        unfold KO_X11_proof_235 KF_X11_proof_235
        refine wp_and j5 (go _ _ (join_S sS (Or.inr rfl) (Or.inl rfl) j1 j2 j3 j4 j5) j6 (shaB_len _) j7 ?_)
        unfold pfN
        rw [if_neg (by omega), if_neg (by omega)]
    by_cases c1 : bg l p = 1
    · have y1 : sb (bg l p) = nI 1 := by rw [sb_eq b8 (by decide)]; omega
      exact wp_pos y1 (side _ 1 c1.symm y1 (Or.inl rfl))
    refine wp_neg (by rw [sb_eq b8 (by decide)]; omega) ?_
    by_cases c2 : bg l p = 2
    · have y1 : sb (bg l p) = nI 2 := by rw [sb_eq b8 (by decide)]; omega
      exact wp_pos y1 (side _ 2 c2.symm y1 (Or.inr rfl))
    rw [if_pos (by omega)] at eW
    rw [eW]
    exact wp_neg (by rw [sb_eq b8 (by decide)]; omega) (wp_fin trivial ⟨fr, sS, Or.inl ⟨rfl, rfl⟩⟩)
theorem proof_C (hN : 12000 ≤ N) (h : clW F g H T s w) (hv : (∃ k a n, k ≤ 1 ∧ 102 ≤ a ∧ a ≤ n ∧ n ≤ (wL w).length ∧ x = nI k ∧ y = nI a ∧ u = nI n ∧ ((v = nI 1 ∧ pfY (wL w) k a n) ∨ (v = nI 0 ∧ ¬ pfY (wL w) k a n))) ∨ ((¬ ∃ k a n, k ≤ 1 ∧ 102 ≤ a ∧ a ≤ n ∧ n ≤ (wL w).length ∧ x = nI k ∧ y = nI a ∧ u = nI n) ∧ v = nI 0)) : wp (p_X11_proof N g H T s g x y u) (k_X11_proof N g H T s g x y u) (fun z => z.1 = v ∧ clW F g H T z.2 w) := by
  have h' := h
  obtain ⟨ct, cr, b5⟩ := h'
  have tp := cr.2.2.2.2.2.2.2.1
  have t1 := tp.1
  have t2 := tp.2.1
  have tb := tape_B cr
  have tL := tape_L cr.2.1
  have raw : wp (p_X11_proof N g H T s g x y u) (k_X11_proof N g H T s g x y u) (fun z => z.1 = v ∧ cfr (fun x => isH (g + 3) x ∨ x = g + 2) s z.2 ∧ St 0 g H T z.2) := by
    show wp (KO_X11_proof_0 N g H T g x y u s) (KF_X11_proof_0 N g H T g x y u s) _
    unfold KO_X11_proof_0 KF_X11_proof_0 KO_X11_proof_28 KF_X11_proof_28
    have no : (¬ ∃ k a n, k ≤ 1 ∧ 102 ≤ a ∧ a ≤ n ∧ n ≤ (wL w).length ∧ x = nI k ∧ y = nI a ∧ u = nI n) → ((nI 0, s) : Int32 × cS).1 = v ∧ cfr (fun x => isH (g + 3) x ∨ x = g + 2) s ((nI 0, s) : Int32 × cS).2 ∧ St 0 g H T ((nI 0, s) : Int32 × cS).2 := fun z => by
      rcases hv with ⟨k, a, n, q1, q2, q3, q4, q5, q6, q7, _⟩ | ⟨_, q⟩
      · exact absurd ⟨k, a, n, q1, q2, q3, q4, q5, q6, q7⟩ z
      · exact ⟨q.symm, cfr.refl, cr.2.1⟩
    rw [t1]
    refine wp_ite (fun c => wp_fin trivial (no ?_)) (fun c => ?_)
    · rintro ⟨k, a, n, q1, q2, q3, q4, q5, q6, q7⟩
      rw [q5] at c
      exact n_lt0 (by omega) c
    obtain ⟨k, hk, rfl⟩ := i_nat c
    refine wp_ite (fun c => wp_fin trivial (no ?_)) (fun c1 => ?_)
    · rintro ⟨k', a, n, q1, q2, q3, q4, q5, q6, q7⟩
      rw [q5, n_lt' (by omega) (by omega)] at c
      omega
    rw [n_lt' (by omega) hk] at c1
    refine wp_ite (fun c => wp_fin trivial (no ?_)) (fun c2 => ?_)
    · rintro ⟨k', a, n, q1, q2, q3, q4, q5, q6, q7⟩
      rw [q6, n_lt' (by omega) (by omega)] at c
      omega
    have cy : ¬ y < 0 := fun z => c2 (by
      rw [Int32.lt_iff_toInt_lt] at z ⊢
      have : (0 : Int32).toInt = 0 := rfl
      have : (nI 102).toInt = 102 := rfl
      omega)
    obtain ⟨a, ha, rfl⟩ := i_nat cy
    rw [n_lt' ha (by omega)] at c2
    refine wp_ite (fun c => wp_fin trivial (no ?_)) (fun c3 => ?_)
    · rintro ⟨k', a', n, q1, q2, q3, q4, q5, q6, q7⟩
      rw [q6, q7, n_lt' (by omega) (by omega)] at c
      omega
    have cu : ¬ u < 0 := fun z => c3 (by
      rw [Int32.lt_iff_toInt_lt] at z ⊢
      have : (0 : Int32).toInt = 0 := rfl
      have e1 : (nI a).toInt = (a : Int) := by rw [← iI_n, iI_toInt (by omega) (by omega)]
      omega)
    obtain ⟨n, hn, rfl⟩ := i_nat cu
    rw [n_lt' hn ha] at c3
    refine wp_ite (fun c4 => ?_) (fun c4 => wp_fin trivial (no ?_)) <;> rw [n_le' hn (by omega)] at c4
    rotate_left
    · rintro ⟨k', a', n', q1, q2, q3, q4, q5, q6, q7⟩
      have := n_inj hn (by omega) q7
      omega
    have val : (v = nI 1 ∧ pfY (wL w) k a n) ∨ (v = nI 0 ∧ ¬ pfY (wL w) k a n) := by
      rcases hv with ⟨k', a', n', q1, q2, q3, q4, q5, q6, q7, q8⟩ | ⟨q, _⟩
      · have := n_inj hk (by omega) q5
        subst this
        have := n_inj ha (by omega) q6
        subst this
        have := n_inj hn (by omega) q7
        subst this
        exact q8
      · exact absurd ⟨k, a, n, by omega, by omega, by omega, c4, rfl, rfl, rfl⟩ q
    -- the leaf
    have hh := hL_of cr.2.1
    obtain ⟨o1, o2⟩ := open_ok (N := N) (g := g) (H := H) (T := T) (h := g + 3) s (fun _ => 0)
    obtain ⟨p1, p2⟩ := add_ok (N := N) (g := g) (H := H) (T := T) (nI 0) o2 (by decide)
    obtain ⟨s1, s2⟩ := addR_ok (N := N) (g := g) (H := H) (T := T) (r := g + 1) (a := 101) (b := a) p2 (by omega) (by omega) (by omega) (by omega) (by omega)
    obtain ⟨e1, e2, e3, e4, -, -⟩ := closeF (N := N) (g := g) (H := H) (T := T) (r := g + 2) (at_ := 0) (by omega) s2 (by omega) hh.1 hh.2.1 (by omega) (by omega) (by omega)
    refine wp_and o1 ?_
    unfold KO_X11_proof_44 KF_X11_proof_44
    refine wp_and p1 ?_
    unfold KO_X11_proof_50 KF_X11_proof_50
    refine wp_and s1 ?_
    unfold KO_X11_proof_62 KF_X11_proof_62
    refine wp_and e1 ?_
    have b0 : byR (k_X2_close N g H T (k_X2_add_ N g H T (k_X2_add N g H T (k_X2_open N g H T s (g + 3)) (g + 3) (nI 0)) (g + 3) (some (g + 1)) (nI 101) (nI a)) (g + 3) (some (g + 2)) (nI 0)) (g + 2) 0 (shaB (0 :: sl (wL w) 101 (a - 101))) := fun i hi => by
      rw [shaB_len] at hi
      refine (e3 i hi).trans ?_
      have lc : (0 :: sl (wL w) 101 (a - 101)).length = 0 + 1 + (a - 101) := by
        show (sl (wL w) 101 (a - 101)).length + 1 = _
        rw [sl_len]
        omega
      refine shaB_of lc.symm (fun j hj => ?_) hi
      by_cases c0 : j = 0
      · rw [c0, if_pos (by omega), if_pos rfl]
        show nI 0 &&& nI 255 = nI 0
        decide
      · obtain ⟨i, rfl⟩ : ∃ i, j = i + 1 := ⟨j - 1, by omega⟩
        rw [if_neg (by omega)]
        show cA s (g + 1) (101 + (i + 1 - (0 + 1))) &&& nI 255 = nI (bg (sl (wL w) 101 (a - 101)) i)
        rw [show 101 + (i + 1 - (0 + 1)) = 101 + i by omega, sl_in (by omega), tb.2.2.1 (101 + i) (by omega)]
        exact sb_and _ (tb.2.2.2 _)
    have u1 := (kpc_X2_open cr.2.1 oH o1).1
    have u2 := (kpc_X2_add u1 oH p1).1
    have u3 := (kpc_X2_add_ u2 oH (tK_some (tape_L u2).2.1) s1).1
    have st1 := (kpc_X2_close u3 oH (tK_some (tape_L u3).2.2.2) e1).1
    generalize k_X2_close N g H T (k_X2_add_ N g H T (k_X2_add N g H T (k_X2_open N g H T s (g + 3)) (g + 3) (nI 0)) (g + 3) (some (g + 1)) (nI 101) (nI a)) (g + 3) (some (g + 2)) (nI 0) = S1 at e2 b0 st1 ⊢
    unfold KO_X11_proof_72 KF_X11_proof_72
    refine wp_seq (proof_l (z1 := nI k) hN cr.2.1 tb c4 t2 2000 N a S1 _ (by omega) (by omega) (by omega) (by omega) (by omega) st1 (shaB_B _) e2 (shaB_len _) b0) (fun Z hZ => ?_)
    obtain ⟨z0, sZ0, hZ⟩ := hZ
    unfold KOA_X11_proof_75 KA_X11_proof_75
    rcases hZ with ⟨z1, z2⟩ | ⟨z1, z2, z3, d', z4, z5, z6, dB, sZ⟩
    · rw [if_pos z1, if_pos z1]
      unfold KO_X11_proof_122 KF_X11_proof_122
      refine wp_fin trivial ⟨?_, z0, sZ0⟩
      rcases val with ⟨_, q⟩ | ⟨q, _⟩
      · obtain ⟨dd, q1, _⟩ := q
        rw [z2] at q1
        cases q1
      · exact q.symm
    · rw [if_neg (by omega), if_neg (by omega), z2, z3]
      have tZ := tape_L sZ
      have cd : cB Z.2.2.2 (g + 2) d' := by
        refine ⟨by omega, by omega, fun i hi => ?_, dB⟩
        have := z6 i hi
        rw [Nat.zero_add] at this
        exact sZ.sb tZ.2.2.2 (dB i) this
      have ct' : cB Z.2.2.2 (g + 1) (wL w) := tb.f z0 (by unfold isH; omega)
      have fin : ∀ o, o + 32 ≤ 100 → (o = if k = 0 then 67 else 35) → wp (KO_X11_proof_271 N g H T (some (g + 2)) (nI 0) (some (g + 1)) (nI o) Z.2.2.2) (KF_X11_proof_271 N g H T (some (g + 2)) (nI 0) (some (g + 1)) (nI o) Z.2.2.2) (fun z => z.1 = v ∧ cfr (fun x => isH (g + 3) x ∨ x = g + 2) s z.2 ∧ St 0 g H T z.2) := fun o ho eo => by
        unfold KO_X11_proof_271 KF_X11_proof_271
        have sm := sameBytes_ok (N := N) (g := g) (H := H) (T := T) (p := 0) (q := o) (n := 32) cd ct' (by omega) (by omega) (by omega)
        have pf : pfY (wL w) k a n ↔ ∀ i, i < 32 → bg d' (0 + i) = bg (wL w) (o + i) := by
          unfold pfY
          constructor
          · rintro ⟨dd, q1, q2⟩ i hi
            rw [z4] at q1
            cases q1
            rw [Nat.zero_add, eo]
            exact q2 i hi
          · intro q
            refine ⟨d', z4, fun i hi => ?_⟩
            rw [← eo]
            have := q i hi
            rw [Nat.zero_add] at this
            exact this
        refine wp_and sm.1 ?_
        rcases sm.2 with ⟨q1, q2⟩ | ⟨q1, q2⟩
        · rw [q2]
          refine wp_fin bo1 ⟨?_, z0, sZ0⟩
          rcases val with ⟨q, _⟩ | ⟨_, q⟩
          · exact q.symm
          · exact absurd (pf.2 q1) q
        · rw [q2]
          refine wp_fin bo0 ⟨?_, z0, sZ0⟩
          rcases val with ⟨_, q⟩ | ⟨q, _⟩
          · exact absurd (pf.1 q) q1
          · exact q.symm
      unfold KO_X11_proof_251 KF_X11_proof_251
      by_cases c : k = 0
      · rw [c] at fin ⊢
        exact wp_pos rfl (fin 67 (by omega) (if_pos rfl).symm)
      · exact wp_neg (by rw [n_eq0 hk]; exact c) (fin 35 (by omega) (if_neg c).symm)
  exact wp_mono raw (fun q => ⟨q.1, clW.sc cr b5 q.2.1 (fun a z => by unfold scP; unfold isH at z; omega) q.2.2⟩)
end
end
