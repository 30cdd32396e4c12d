section
/-! THE REFERENCE VOTES AND PROPOSES -/
section
variable {N n F H T : Nat} {S : rS} {w : Wd}
/-- where a note of the height was whole -/
theorem aOwn_t {t : List Nat} (h : (aOwn w n t).1 = true) : (∀ m k, (k < 12 ∨ 15 < k) → k < 100 → wN (aOwn w n t).2 m k = wN w m k) ∧ wY (aOwn w n t).2 = wY w ∧ wP (aOwn w n t).2 = wP w ∧ wK (aOwn w n t).2 = wK w ∧ wT (aOwn w n t).2 = wT w ∧ wL (aOwn w n t).2 = wL w := by
  unfold aOwn at h ⊢
  unfold aNote at h ⊢
  cases hb : nTrn w n with
  | true =>
    rw [hb] at h
    cases h
  | false =>
    refine ⟨fun m k h1 h2 => ?_, rfl, rfl, rfl, rfl, rfl⟩
    show wN (sN (sN (aWr w n t _) n 13 _) n 15 _) m k = _
    rw [N_o _ _ _ _ (by omega), N_o _ _ _ _ (by omega), aWr_N _ _ _ _ (by omega)]
theorem bg_vt {k s h r : Nat} (o : Option (List Nat)) : bg (vtB k s h r o) 0 = k ∧ bg (vtB k s h r o) 4 = r ∧ bg (vtB k s h r o) 5 = (match o with | none => 0 | some _ => 1) := by cases o <;> exact ⟨rfl, rfl, rfl⟩
theorem voD_vn {k s h r : Nat} : voD (vtB k s h r none) = mkB 32 (fun _ => 0) := rfl
theorem voD_vs {k s h r : Nat} {d : List Nat} (hl : d.length = 32) : voD (vtB k s h r (some d)) = d := by
  refine by_ext (by rw [voD_len, hl]) (fun i hi => ?_)
  rw [voD_len] at hi
  unfold voD
  rw [mkB_in hi]
  show bg (hdB k s h r ++ 1 :: d) (6 + i) = bg d i
  unfold bg hdB
  rw [show 6 + i = i + 6 by omega]
  rfl
theorem bg_pr {s h r : Nat} {v : Int} {b : List Nat} (hv : -1 ≤ v ∧ v < 16) : bg (prB s h r v b) 0 = 1 ∧ bg (prB s h r v b) 4 = r ∧ prV (prB s h r v b) = v ∧ (prB s h r v b).drop 6 = b := by
  refine ⟨rfl, rfl, ?_, rfl⟩
  show (if vrB v = 255 then (-1 : Int) else vrB v) = v
  unfold vrB
  by_cases c : v = -1
  · rw [if_pos c, if_pos rfl, c]
  · rw [if_neg c, if_neg (by omega)]
    omega
/-- a node votes -/
def vtM (w : Wd) (n k : Nat) (o : Option (List Nat)) : List Nat := vtB k n (wN w n 1).toNat (wN w n 2).toNat o
def aVote (w : Wd) (n T k s : Nat) (o : Option (List Nat)) : Bool × Wd := if (aOwn w n (ownT w n 3 (s :: vtM w n k o))).1 then (true, aSend (sN (aOwn w n (ownT w n 3 (s :: vtM w n k o))).2 n 3 s) n T (vtM w n k o)) else (false, (aOwn w n (ownT w n 3 (s :: vtM w n k o))).2)
theorem sf32 {S1 : rS} (f : rfr [32, 33] S S1) : sfr S S1 := f.sf (by decide) (by decide) (by decide) (by decide)
def vtL : List Nat := [12, 13, 14, 32, 33, 43, 46, 52, 53, 55, 57, 59, 60, 61, 62, 63, 64, 65, 66, 67, 68, 69, 70, 71, 72, 73, 74, 75, 76, 77, 78, 79] ++ skL
theorem vote_ok {k s i : Nat} {x3 : Int32} {p : Nat} {o : Option (List Nat)} (hN : 1000 ≤ N) (h : rRp F H T S w) (hn : n < H) (hk : k = 2 ∨ k = 3) (hs : s < 256) (hx : (x3 = -1 ∧ o = none) ∨ (x3 = nI p ∧ p < 1354 ∧ ∃ d, o = some d ∧ dB S p d ∧ d.length = 32 ∧ isB d)) (h1 : 0 ≤ wN w n 1 ∧ wN w n 1 ≤ 41) (h2 : 0 ≤ wN w n 2 ∧ wN w n 2 < 16) (hc : 0 ≤ wN w n 12 ∧ wN w n 12 ≤ 1000) (h15 : 0 ≤ wN w n 15 ∧ wN w n 15 ≤ 100) (hi : wN w n 17 = i) (hi64 : i < 64) : wp (o_vote N S (nI n) (nI k) x3 (nI s)) (f_vote N S (nI n) (nI k) x3 (nI s)) (fun z => rfr vtL S z.2 ∧ rRp F H T z.2 (aVote w n T k s o).2 ∧ z.1 = nI (if (aVote w n T k s o).1 then 1 else 0)) := by
  have cb := h.1.1.b
  have e44 : S.2.1 44 n = nI (wN w n 1).toNat := by
    have := h.num hn 1 (by decide) (by decide)
    rw [← Int.toNat_of_nonneg h1.1, iI_n] at this
    exact this
  have e45 : S.2.1 45 n = nI (wN w n 2).toNat := by
    have := h.num hn 2 (by decide) (by decide)
    rw [← Int.toNat_of_nonneg h2.1, iI_n] at this
    exact this
  show wp (O_vote_0 N (nI n) (nI k) x3 (nI s) S) (F_vote_0 N (nI n) (nI k) x3 (nI s) S) _
  unfold O_vote_0 F_vote_0
  rw [n_clamp (by omega), e44, e45]
  refine wp_and ((n_in (by omega)).2 (by omega)) (wp_and ((n_in (by omega)).2 (by omega)) (wp_call (writeHead_ok (by omega) (by omega) (by omega) (by omega)) (fun q => ?_)))
  obtain ⟨q1, q2⟩ := q
  generalize f_writeHead N S (nI k) (nI n) (nI (wN w n 1).toNat) (nI (wN w n 2).toNat) = S1 at q1 q2 ⊢
  have main : ∀ S2 : rS, rfr [32, 33] S S2 → mB S2 (vtM w n k o) → wp (O_vote_72 N (nI n) (nI k) x3 (nI s) S2) (F_vote_72 N (nI n) (nI k) x3 (nI s) S2) (fun z => rfr vtL S z.2 ∧ rRp F H T z.2 (aVote w n T k s o).2 ∧ z.1 = nI (if (aVote w n T k s o).1 then 1 else 0)) := by
    intro S2 f2 hm
    have ml : (vtM w n k o).length ≤ 38 ∧ 1 ≤ (vtM w n k o).length := by
      unfold vtM vtB hdB
      cases o with
      | none => exact ⟨by simp, by simp⟩
      | some d =>
        rcases hx with ⟨-, e⟩ | ⟨-, -, d', e, -, l, -⟩
        · cases e
        · cases e
          simp [l]
    unfold O_vote_72 F_vote_72
    refine wp_call (noteSent_ok (m := vtM w n k o) hs hN (h.sf (sf32 f2)) hn hm (by omega) h1 hc h15) (fun q => ?_)
    obtain ⟨⟨r1, r1'⟩, r2, r3⟩ := q
    generalize f_noteSent N S2 (nI n) (nI s) = y at r1 r1' r2 r3 ⊢
    have fy : rfr vtL S y.2 := (f2.mono (by decide)).trans (r1.mono (by decide))
    unfold O_vote_79 F_vote_79
    rw [r3]
    unfold aVote
    cases hb : (aOwn w n (ownT w n 3 (s :: vtM w n k o))).1 with
    | false =>
      refine wp_pos rfl (wp_fin trivial ⟨fy, ?_, rfl⟩)
      exact r2
    | true =>
      obtain ⟨t1, t2, t3, t4, t5, t6⟩ := aOwn_t hb
      rw [hb] at r3
      have fw := r1' r3
      generalize (aOwn w n (ownT w n 3 (s :: vtM w n k o))).2 = w1 at r2 t1 t2 t3 t4 t5 t6 ⊢
      have y45 : y.2.2.1 45 n = nI (wN w n 2).toNat := by rw [fw.a 45 (by decide), f2.a 45 (by decide)]; exact e45
      have y65 : y.2.2.1 65 n = nI i := by
        have := r2.num hn 17 (by decide) (by decide)
        rw [t1 n 17 (by omega) (by omega), hi, iI_n] at this
        exact this
      have y13 : y.2.2.2 13 = S.2.2 13 := by rw [fw.l 13 (by decide), f2.l 13 (by decide)]
      have y32 : mB y.2 (vtM w n k o) := hm.fr fw (by decide) (by decide)
      have R2 : rRp F H T (rsA y.2 46 n (nI s)) (sN w1 n 3 s) := r2.setN (n := n) (k := 3) (v := s) (by decide) (by decide) (by decide)
      obtain ⟨b0, b4, b5⟩ := bg_vt (k := k) (s := n) (h := (wN w n 1).toNat) (r := (wN w n 2).toNat) o
      have f46 : rfr [46] y.2 (rsA y.2 46 n (nI s)) := rfr.one (by decide)
      rw [n_clamp (by omega)]
      have z65 : (rsA y.2 46 n (nI s)).2.1 65 n = nI i := by rw [f46.a 65 (by decide)]; exact y65
      have z45 : (rsA y.2 46 n (nI s)).2.1 45 n = nI (wN w n 2).toNat := by rw [f46.a 45 (by decide)]; exact y45
      have z13 : (rsA y.2 46 n (nI s)).2.2 13 = S.2.2 13 := by rw [f46.l 13 (by decide)]; exact y13
      have z32 : mB (rsA y.2 46 n (nI s)) (vtM w n k o) := y32.fr f46 (by decide) (by decide)
      have fz : rfr vtL S (rsA y.2 46 n (nI s)) := fy.trans (f46.mono (by decide))
      generalize rsA y.2 46 n (nI s) = S3 at R2 z65 z45 z13 z32 fz ⊢
      rw [z65, n_mul, n_add, n_clamp (by omega)]
      refine wp_neg (show ¬ nI 1 = 0 by decide) (wp_and ((n_in (by omega)).2 (by omega)) (wp_and ((n_in (by omega)).2 (by omega)) (wp_and ((n_in (by omega)).2 (by omega)) ?_)))
      unfold O_vote_113 F_vote_113
      rw [n_clamp (by omega), n_clamp (by omega)]
      have x45 : (rsA S3 66 (64 * n + i) (nI k)).2.1 45 n = nI (wN w n 2).toNat := by rw [A_other _ _ _ (by decide)]; exact z45
      rw [x45]
      refine wp_and ((n_in (by omega)).2 (by omega)) (wp_and ((n_in (by omega)).2 (by omega)) ?_)
      have f4 : rfr [66, 67, 68, 69, 70] S3 (rsA (rsA S3 66 (64 * n + i) (nI k)) 67 (64 * n + i) (nI (wN w n 2).toNat)) := (rfr.one (by decide)).trans (rfr.one (by decide))
      have c66 : (rsA (rsA S3 66 (64 * n + i) (nI k)) 67 (64 * n + i) (nI (wN w n 2).toNat)).2.1 66 = upd (S3.2.1 66) (64 * n + i) (nI k) := by rw [A_other _ _ _ (by decide), A_same]
      have c67 : (rsA (rsA S3 66 (64 * n + i) (nI k)) 67 (64 * n + i) (nI (wN w n 2).toNat)).2.1 67 = upd (S3.2.1 67) (64 * n + i) (nI (wN w n 2).toNat) := by rw [A_same, A_other _ _ _ (by decide)]
      have c69 : (rsA (rsA S3 66 (64 * n + i) (nI k)) 67 (64 * n + i) (nI (wN w n 2).toNat)).2.1 69 = S3.2.1 69 := by rw [A_other _ _ _ (by decide), A_other _ _ _ (by decide)]
      have c68 : (rsA (rsA S3 66 (64 * n + i) (nI k)) 67 (64 * n + i) (nI (wN w n 2).toNat)).2.1 68 = S3.2.1 68 := by rw [A_other _ _ _ (by decide), A_other _ _ _ (by decide)]
      have c70 : (rsA (rsA S3 66 (64 * n + i) (nI k)) 67 (64 * n + i) (nI (wN w n 2).toNat)).2.2 70 = S3.2.2 70 := rfl
      generalize rsA (rsA S3 66 (64 * n + i) (nI k)) 67 (64 * n + i) (nI (wN w n 2).toNat) = S4 at f4 c66 c67 c68 c69 c70 ⊢
      have fin : ∀ (t : Nat) (V : Nat → Int64), t = bg (vtM w n k o) 5 → t ≤ 1 → ((x3 < 0 ∧ ∀ q, V q = 0) ∨ (x3 = nI p ∧ p < 1354 ∧ ∀ q, q < 4 → V q = S.2.2 13 (4 * p + q))) → idL (V 0) (V 1) (V 2) (V 3) (voD (vtM w n k o)) → wp (O_vote_141 N (nI n) x3 (nI (64 * n + i)) (nI (64 * n + i)) (nI t) S4) (F_vote_141 N (nI n) x3 (nI (64 * n + i)) (nI (64 * n + i)) (nI t) S4) (fun z => rfr vtL S z.2 ∧ rRp F H T z.2 (aSend (sN w1 n 3 s) n T (vtM w n k o)) ∧ z.1 = nI 1) := by
        intro t V ht ht1 hV hid
        unfold O_vote_141 F_vote_141
        rw [n_clamp (by omega)]
        refine wp_and ⟨((n_in (by omega)).2 (by omega)), by rcases (show t = 0 ∨ t = 1 by omega) with rfl | rfl <;> rfl⟩ ?_
        have f5 : rfr [66, 67, 68, 69, 70] S3 (rsA S4 69 (64 * n + i) (nI t)) := f4.trans (rfr.one (by decide))
        have d69 : (rsA S4 69 (64 * n + i) (nI t)).2.1 69 = upd (S3.2.1 69) (64 * n + i) (nI t) := by rw [A_same, c69]
        have d66 : (rsA S4 69 (64 * n + i) (nI t)).2.1 66 = upd (S3.2.1 66) (64 * n + i) (nI k) := by rw [A_other _ _ _ (by decide), c66]
        have d67 : (rsA S4 69 (64 * n + i) (nI t)).2.1 67 = upd (S3.2.1 67) (64 * n + i) (nI (wN w n 2).toNat) := by rw [A_other _ _ _ (by decide), c67]
        have d68 : (rsA S4 69 (64 * n + i) (nI t)).2.1 68 = S3.2.1 68 := by rw [A_other _ _ _ (by decide), c68]
        have d70 : (rsA S4 69 (64 * n + i) (nI t)).2.2 70 = S3.2.2 70 := c70
        generalize rsA S4 69 (64 * n + i) (nI t) = S5 at f5 d66 d67 d68 d69 d70 ⊢
        refine wp_seq (Q := fun z : Nat × Int32 × rS => z = (0, nI n, z.2.2) ∧ rfr [70] S5 z.2.2 ∧ ∀ x, z.2.2.2.2 70 x = if 4 * (64 * n + i) ≤ x ∧ x < 4 * (64 * n + i) + 4 then V (x - 4 * (64 * n + i)) else S3.2.2 70 x) ?_ ?_
        · refine wp_loop (K := 4) (fun j u => rfr [70] S5 u ∧ ∀ x, u.2.2 70 x = if 4 * (64 * n + i) ≤ x ∧ x < 4 * (64 * n + i) + j then V (x - 4 * (64 * n + i)) else S3.2.2 70 x) (fun q j u => OL_vote_145 N q (nI n) x3 (nI (64 * n + i)) (nI j) u) (fun q j u => L_vote_145 N q (nI n) x3 (nI (64 * n + i)) (nI j) u) (fun q j u hj hI ih => ?_) 0 N S5 (by omega) (by omega) ⟨rfr.refl, fun x => by rw [if_neg (by omega), d70]⟩
          unfold OL_vote_145 L_vote_145 OB_vote_145 B_vote_145
          by_cases e : j = 4
          · refine wp_pos (by rw [n_le' (by omega) (by omega)]; omega) ?_
            subst e
            exact wp_fin trivial ⟨rfl, hI⟩
          · have step : ∀ v : Int64, v = V j → wp (O_vote_181 N (OL_vote_145 N q) (nI n) x3 (nI (64 * n + i)) (nI j) (nI (4 * (64 * n + i) + j)) v u) (F_vote_181 N (L_vote_145 N q) (nI n) x3 (nI (64 * n + i)) (nI j) (nI (4 * (64 * n + i) + j)) v u) (fun z : Nat × Int32 × rS => z = (0, nI n, z.2.2) ∧ rfr [70] S5 z.2.2 ∧ ∀ x, z.2.2.2.2 70 x = if 4 * (64 * n + i) ≤ x ∧ x < 4 * (64 * n + i) + 4 then V (x - 4 * (64 * n + i)) else S3.2.2 70 x) := by
              intro v hv
              unfold O_vote_181 F_vote_181
              rw [n_add, n_clamp (by omega)]
              refine wp_and ((n_in (by omega)).2 (by omega)) (ih _ ⟨hI.1.trans (rfr.oneL (by decide)), fun x => ?_⟩ (by omega))
              rw [L_same]
              by_cases c : x = 4 * (64 * n + i) + j
              · rw [c, updL_same, if_pos (by omega), hv]
                congr 1
                omega
              · rw [updL_other _ _ c, hI.2 x]
                by_cases c2 : 4 * (64 * n + i) ≤ x ∧ x < 4 * (64 * n + i) + j
                · rw [if_pos c2, if_pos (by omega)]
                · rw [if_neg c2, if_neg (by omega)]
            simp only [n_mul, n_add]
            refine wp_neg (by rw [n_le' (by omega) (by omega)]; omega) ?_
            rcases hV with ⟨v1, v2⟩ | ⟨v1, v2, v3⟩
            · exact wp_pos v1 (step _ (v2 j).symm)
            · refine wp_neg (by rw [v1]; exact n_lt0 (by omega)) ?_
              have e13 : u.2.2 13 (4 * p + j) = V j := by
                rw [v3 j (by omega), hI.1.l 13 (by decide), f5.l 13 (by decide), z13]
              subst v1
              rw [n_mul, n_add, n_clamp (by omega)]
              exact wp_and ((n_in (by omega)).2 (by omega)) (step _ e13)
        · rintro z ⟨z0, z1, z2⟩
          rw [z0]
          generalize z.2.2 = S6 at z1 z2 ⊢
          show wp (O_vote_188 N (nI n) S6) (F_vote_188 N (nI n) S6) _
          unfold O_vote_188 F_vote_188
          have f6 : rfr [66, 67, 68, 69, 70] S3 S6 := f5.trans (z1.mono (by decide))
          refine wp_call (sendLogged_ok (S := S3) (w := sN w1 n 3 s) (i := i) (p := 2000) (m := vtM w n k o) hN R2 hn ?_ hi64 ?_ (z32.fr f6 (by decide) (by decide)) ml.2 (f6.mono (by decide)) (pO1.fr f6 (by decide) (by decide) (by decide)) (Or.inr (by omega)) ?_ ?_ ?_ ?_ ?_ ?_ ?_) (fun q => ?_)
          · rw [N_o _ _ _ _ (by omega), t1 n 17 (by omega) (by omega)]
            exact hi
          · rw [N_o _ _ _ _ (by omega), t1 n 1 (by omega) (by omega)]
            exact h1
          · intro a a1 a2 x hx
            rcases (show a = 66 ∨ a = 67 ∨ a = 68 ∨ a = 69 by omega) with rfl | rfl | rfl | rfl
            · rw [z1.a 66 (by decide), d66, upd_other _ _ hx]
            · rw [z1.a 67 (by decide), d67, upd_other _ _ hx]
            · rw [z1.a 68 (by decide), d68]
            · rw [z1.a 69 (by decide), d69, upd_other _ _ hx]
          · intro x hx
            rw [z2 x, if_neg hx]
          · rw [z1.a 66 (by decide), d66, upd_same]
            show nI k = nI (bg (vtB k n _ _ o) 0)
            rw [b0]
          · rw [z1.a 67 (by decide), d67, upd_same]
            show _ = nI (bg (vtB k n _ _ o) 4)
            rw [b4]
          · show bg (vtB k n _ _ o) 4 < 16
            rw [b4]
            omega
          · intro e
            have : bg (vtB k n _ _ o) 0 = 1 := e
            rw [b0] at this
            omega
          · intro _
            refine ⟨?_, by omega, ?_, ?_⟩
            · show bg (vtB k n _ _ o) 0 = 2 ∨ bg (vtB k n _ _ o) 0 = 3
              rw [b0]
              exact hk
            · rw [z1.a 69 (by decide), d69, upd_same, ht]
            · rw [z2, z2, z2, z2, if_pos (by omega), if_pos (by omega), if_pos (by omega), if_pos (by omega), show 4 * (64 * n + i) - 4 * (64 * n + i) = 0 by omega, show 4 * (64 * n + i) + 1 - 4 * (64 * n + i) = 1 by omega, show 4 * (64 * n + i) + 2 - 4 * (64 * n + i) = 2 by omega, show 4 * (64 * n + i) + 3 - 4 * (64 * n + i) = 3 by omega]
              exact hid
          · unfold O_vote_193 F_vote_193
            exact wp_fin trivial ⟨(fz.trans (f6.mono (by decide))).trans (q.1.mono (by decide)), q.2, rfl⟩
      rcases hx with ⟨hx, ho⟩ | ⟨hx, hp, d, ho, hd, hdl, hB2⟩
      · refine wp_pos (by rw [hx]; decide) (fin 0 (fun _ => 0) ?_ (by omega) (Or.inl ⟨by rw [hx]; decide, fun _ => rfl⟩) ?_)
        · show 0 = bg (vtB k n _ _ o) 5
          rw [b5, ho]
        · show idL 0 0 0 0 (voD (vtB k n _ _ o))
          rw [ho, voD_vn]
          intro a ha
          show byt 0 a = nI (bg (mkB 32 (fun _ => 0)) a) ∧ byt 0 a = nI (bg (mkB 32 (fun _ => 0)) (8 + a)) ∧ byt 0 a = nI (bg (mkB 32 (fun _ => 0)) (16 + a)) ∧ byt 0 a = nI (bg (mkB 32 (fun _ => 0)) (24 + a))
          rw [mkB_in (by omega), mkB_in (by omega), mkB_in (by omega), mkB_in (by omega)]
          have : byt 0 a = nI 0 := by
            rcases (show a = 0 ∨ a = 1 ∨ a = 2 ∨ a = 3 ∨ a = 4 ∨ a = 5 ∨ a = 6 ∨ a = 7 by omega) with rfl | rfl | rfl | rfl | rfl | rfl | rfl | rfl <;> decide
          exact ⟨this, this, this, this⟩
      · refine wp_neg (by rw [hx]; exact n_lt0 (by omega)) (fin 1 (fun q => S.2.2 13 (4 * p + q)) ?_ (by omega) (Or.inr ⟨hx, hp, fun _ _ => rfl⟩) ?_)
        · show 1 = bg (vtB k n _ _ o) 5
          rw [b5, ho]
        · show idL _ _ _ _ (voD (vtB k n _ _ o))
          rw [ho, voD_vs hdl]
          exact hd.id
  unfold O_vote_18 F_vote_18
  rcases hx with ⟨hx, ho⟩ | ⟨hx, hp, d, ho, hd, hdl, hB2⟩
  · refine wp_pos (by rw [hx]; decide) (wp_call (write_ok q2 (by simp [hdB])) (fun q => main _ (q1.trans q.1) ?_))
    have := q.2
    show mB _ (vtB k n _ _ o)
    rw [ho]
    exact this
  · have i13 := hd.id
    have e13 : S1.2.2 13 = S.2.2 13 := q1.l 13 (by decide)
    subst hx
    simp only [n_mul, n_add]
    rw [n_clamp (by omega), n_clamp (by omega), n_clamp (by omega), n_clamp (by omega), e13]
    refine wp_neg (n_lt0 (by omega)) (wp_and ((n_in (by omega)).2 (by omega)) (wp_and ((n_in (by omega)).2 (by omega)) (wp_and ((n_in (by omega)).2 (by omega)) (wp_and ((n_in (by omega)).2 (by omega)) (wp_call (writeId_ok q2 i13 hdl hB2 (by simp [hdB]) (by omega)) (fun q => ?_))))))
    unfold O_vote_64 F_vote_64
    refine main _ (q1.trans q.1) ?_
    have := q.2
    show mB _ (vtB k n _ _ o)
    rw [ho]
    exact this
/-- a node proposes -/
def prM (w : Wd) (n : Nat) (v : Int) (b : List Nat) : List Nat := prB n (wN w n 1).toNat (wN w n 2).toNat v b
def aProp (w : Wd) (n T : Nat) (v : Int) (b : List Nat) : Bool × Wd := if (aOwn w n (ownT w n 3 (0 :: prM w n v b))).1 then (true, aSend (aOwn w n (ownT w n 3 (0 :: prM w n v b))).2 n T (prM w n v b)) else (false, (aOwn w n (ownT w n 3 (0 :: prM w n v b))).2)
theorem propose_ok {i p : Nat} {v : Int} {b : List Nat} (hN : 1000 ≤ N) (h : rRp F H T S w) (hn : n < H) (hv : -1 ≤ v ∧ v < 16) (hp : p < 1354) (hp2 : p < 1144 ∨ 1352 ≤ p) (hb : bR S p b) (hok : bOK b) (h1 : 0 ≤ wN w n 1 ∧ wN w n 1 ≤ 41) (h2 : 0 ≤ wN w n 2 ∧ wN w n 2 < 16) (hc : 0 ≤ wN w n 12 ∧ wN w n 12 ≤ 1000) (h15 : 0 ≤ wN w n 15 ∧ wN w n 15 ≤ 100) (hi : wN w n 17 = i) (hi64 : i < 64) (hfr : ∀ (j : Nat) y, j < i → wY w n 8 j = some y → bg y 0 = 1 → bg y 4 ≠ (wN w n 2).toNat) : wp (o_propose N S (nI n) (iI v) (nI p)) (f_propose N S (nI n) (iI v) (nI p)) (fun z => rfr vtL S z.2 ∧ rRp F H T z.2 (aProp w n T v b).2 ∧ z.1 = nI (if (aProp w n T v b).1 then 1 else 0)) := by
  have cb := h.1.1.b
  have e44 : S.2.1 44 n = nI (wN w n 1).toNat := by
    have := h.num hn 1 (by decide) (by decide)
    rw [← Int.toNat_of_nonneg h1.1, iI_n] at this
    exact this
  have e45 : S.2.1 45 n = nI (wN w n 2).toNat := by
    have := h.num hn 2 (by decide) (by decide)
    rw [← Int.toNat_of_nonneg h2.1, iI_n] at this
    exact this
  have hl := hok.2.1
  show wp (O_propose_0 N (nI n) (iI v) (nI p) S) (F_propose_0 N (nI n) (iI v) (nI p) S) _
  unfold O_propose_0 F_propose_0
  rw [n_clamp (by omega), e44, e45]
  refine wp_and ((n_in (by omega)).2 (by omega)) (wp_and ((n_in (by omega)).2 (by omega)) (wp_call (writeProposal_ok (b := b) (by omega) (by omega) (by omega) hv hp hb.1 hb.2.1 hok.2.2 hl hN) (fun q => ?_)))
  obtain ⟨f2, hm⟩ := q
  generalize f_writeProposal N S (nI n) (nI (wN w n 1).toNat) (nI (wN w n 2).toNat) (iI v) (nI p) = S2 at f2 hm ⊢
  have hm : mB S2 (prM w n v b) := hm
  have ml : (prM w n v b).length ≤ 900 ∧ 1 ≤ (prM w n v b).length := by
    unfold prM prB hdB
    simp
    omega
  unfold O_propose_19 F_propose_19
  refine wp_call (noteSent_ok (r := 0) (m := prM w n v b) (by omega) hN (h.sf (sf32 f2)) hn hm (by omega) h1 hc h15) (fun q => ?_)
  obtain ⟨⟨r1, r1'⟩, r2, r3⟩ := q
  generalize f_noteSent N S2 (nI n) (nI 0) = y at r1 r1' r2 r3 ⊢
  have fy : rfr vtL S y.2 := (f2.mono (by decide)).trans (r1.mono (by decide))
  unfold O_propose_25 F_propose_25
  rw [r3]
  unfold aProp
  cases hbb : (aOwn w n (ownT w n 3 (0 :: prM w n v b))).1 with
  | false =>
    refine wp_pos rfl (wp_fin trivial ⟨fy, ?_, rfl⟩)
    exact r2
  | true =>
    obtain ⟨t1, t2, t3, t4, t5, t6⟩ := aOwn_t hbb
    rw [hbb] at r3
    have fw := r1' r3
    generalize (aOwn w n (ownT w n 3 (0 :: prM w n v b))).2 = w1 at r2 t1 t2 t3 t4 t5 t6 ⊢
    have y45 : y.2.2.1 45 n = nI (wN w n 2).toNat := by rw [fw.a 45 (by decide), f2.a 45 (by decide)]; exact e45
    have y65 : y.2.2.1 65 n = nI i := by
      have := r2.num hn 17 (by decide) (by decide)
      rw [t1 n 17 (by omega) (by omega), hi, iI_n] at this
      exact this
    have yb : bR y.2 p b := (hb.fr f2 (by decide) (by decide) (by decide)).fr fw (by decide) (by decide) (by decide)
    have y32 : mB y.2 (prM w n v b) := hm.fr fw (by decide) (by decide)
    obtain ⟨b0, b4, bv, bd⟩ := bg_pr (s := n) (h := (wN w n 1).toNat) (r := (wN w n 2).toNat) (v := v) (b := b) hv
    generalize y.2 = S3 at y45 y65 yb y32 fy r2 ⊢
    rw [n_clamp (by omega), y65, n_mul, n_add, n_clamp (by omega)]
    have x45 : (rsA S3 66 (64 * n + i) (nI 1)).2.1 45 n = nI (wN w n 2).toNat := by rw [A_other _ _ _ (by decide)]; exact y45
    rw [x45]
    refine wp_neg (show ¬ nI 1 = 0 by decide) (wp_and ((n_in (by omega)).2 (by omega)) (wp_and ((n_in (by omega)).2 (by omega)) (wp_and ((n_in (by omega)).2 (by omega)) (wp_and ((n_in (by omega)).2 (by omega)) ?_))))
    unfold O_propose_64 F_propose_64
    rw [n_clamp (by omega), n_clamp (by omega)]
    have w45 : (rsA (rsA (rsA S3 66 (64 * n + i) (nI 1)) 67 (64 * n + i) (nI (wN w n 2).toNat)) 68 (64 * n + i) (iI v)).2.1 45 n = nI (wN w n 2).toNat := by rw [A_other _ _ _ (by decide), A_other _ _ _ (by decide)]; exact x45
    rw [w45]
    have f4 : rfr [66, 67, 68, 69, 70] S3 (rsA (rsA (rsA S3 66 (64 * n + i) (nI 1)) 67 (64 * n + i) (nI (wN w n 2).toNat)) 68 (64 * n + i) (iI v)) := ((rfr.one (by decide)).trans (rfr.one (by decide))).trans (rfr.one (by decide))
    have c66 : (rsA (rsA (rsA S3 66 (64 * n + i) (nI 1)) 67 (64 * n + i) (nI (wN w n 2).toNat)) 68 (64 * n + i) (iI v)).2.1 66 = upd (S3.2.1 66) (64 * n + i) (nI 1) := by rw [A_other _ _ _ (by decide), A_other _ _ _ (by decide), A_same]
    have c67 : (rsA (rsA (rsA S3 66 (64 * n + i) (nI 1)) 67 (64 * n + i) (nI (wN w n 2).toNat)) 68 (64 * n + i) (iI v)).2.1 67 = upd (S3.2.1 67) (64 * n + i) (nI (wN w n 2).toNat) := by rw [A_other _ _ _ (by decide), A_same, A_other _ _ _ (by decide)]
    have c68 : (rsA (rsA (rsA S3 66 (64 * n + i) (nI 1)) 67 (64 * n + i) (nI (wN w n 2).toNat)) 68 (64 * n + i) (iI v)).2.1 68 = upd (S3.2.1 68) (64 * n + i) (iI v) := by rw [A_same, A_other _ _ _ (by decide), A_other _ _ _ (by decide)]
    have c69 : (rsA (rsA (rsA S3 66 (64 * n + i) (nI 1)) 67 (64 * n + i) (nI (wN w n 2).toNat)) 68 (64 * n + i) (iI v)).2.1 69 = S3.2.1 69 := by rw [A_other _ _ _ (by decide), A_other _ _ _ (by decide), A_other _ _ _ (by decide)]
    have c70 : (rsA (rsA (rsA S3 66 (64 * n + i) (nI 1)) 67 (64 * n + i) (nI (wN w n 2).toNat)) 68 (64 * n + i) (iI v)).2.2 70 = S3.2.2 70 := rfl
    have yb4 := yb.fr f4 (by decide) (by decide) (by decide)
    generalize rsA (rsA (rsA S3 66 (64 * n + i) (nI 1)) 67 (64 * n + i) (nI (wN w n 2).toNat)) 68 (64 * n + i) (iI v) = S4 at f4 c66 c67 c68 c69 c70 yb4 ⊢
    simp only [n_mul, n_add]
    refine wp_and ((n_in (by omega)).2 (by omega)) (wp_and ((n_in (by omega)).2 (by omega)) (wp_call (copyBlock_ok (p := p) (q := 1144 + 16 * n + (wN w n 2).toNat) hp (by omega) (by omega) yb4 hl (by omega)) (fun q => ?_)))
    obtain ⟨g1, g2, g3⟩ := q
    generalize f_copyBlock N S4 (nI p) (nI (1144 + 16 * n + (wN w n 2).toNat)) = S6 at g1 g2 g3 ⊢
    unfold O_propose_92 F_propose_92
    have f6 : rfr [12, 13, 14, 66, 67, 68, 69, 70] S3 S6 := (f4.mono (by decide)).trans (g1.mono (by decide))
    refine wp_call (sendLogged_ok (S := S3) (w := w1) (i := i) (p := 1144 + 16 * n + (wN w n 2).toNat) (m := prM w n v b) hN r2 hn ?_ hi64 ?_ (y32.fr f6 (by decide) (by decide)) ml.2 f6 ⟨fun x hx => ?_, fun x k hx hk => ?_, fun x k hx hk => ?_⟩ (Or.inl ⟨?_, ?_⟩) ?_ ?_ ?_ ?_ ?_ ?_ ?_) (fun q => ?_)
    · rw [t1 n 17 (by omega) (by omega)]
      exact hi
    · rw [t1 n 1 (by omega) (by omega)]
      exact h1
    · rw [g2.1 x hx, f4.a 14 (by decide)]
    · rw [g2.2.1 x k hx hk, f4.l 12 (by decide)]
    · rw [g2.2.2 x k hx hk, f4.l 13 (by decide)]
    · show _ = 1144 + 16 * n + bg (prB n _ _ v b) 4
      rw [b4]
    · intro j z hj hz hz0
      rw [t2] at hz
      show _ ≠ bg (prB n _ _ v b) 4
      rw [b4]
      exact hfr j z hj hz hz0
    · intro a a1 a2 x hx
      rcases (show a = 66 ∨ a = 67 ∨ a = 68 ∨ a = 69 by omega) with rfl | rfl | rfl | rfl
      · rw [g1.a 66 (by decide), c66, upd_other _ _ hx]
      · rw [g1.a 67 (by decide), c67, upd_other _ _ hx]
      · rw [g1.a 68 (by decide), c68, upd_other _ _ hx]
      · rw [g1.a 69 (by decide), c69]
    · intro x hx
      rw [g1.l 70 (by decide), c70]
    · rw [g1.a 66 (by decide), c66, upd_same]
      rfl
    · rw [g1.a 67 (by decide), c67, upd_same]
      show _ = nI (bg (prB n _ _ v b) 4)
      rw [b4]
    · show bg (prB n _ _ v b) 4 < 16
      rw [b4]
      omega
    · intro _
      refine ⟨?_, ?_, ?_⟩
      · rw [g1.a 68 (by decide), c68, upd_same]
        show _ = iI (prV (prB n _ _ v b))
        rw [bv]
      · show bR S6 (1144 + 16 * n + bg (prB n _ _ v b) 4) ((prB n _ _ v b).drop 6)
        rw [b4, bd]
        exact g3
      · show bOK ((prB n _ _ v b).drop 6)
        rw [bd]
        exact hok
    · intro e
      exact absurd rfl e
    · unfold O_propose_97 F_propose_97
      exact wp_fin trivial ⟨(fy.trans (f6.mono (by decide))).trans (q.1.mono (by decide)), q.2, rfl⟩
end
end
