section
/-! THE CLASS'S RULES: those that wait, none, and a round ahead -/
/-- what a rule leaves -/
def rlC (F g H T : Nat) (ct : Nat → List Nat) (hd : List Nat) (w : Wd) (pe : Nat → Int) (c : Prop) (w' : Wd) (z : Int32 × cS) : Prop := (c ∧ z.1 = nI 1 ∧ reC F g H T ct hd w' pe z.2) ∨ (¬ c ∧ z.1 = nI 0 ∧ CR F g H T z.2 ct hd w pe)
section
variable {F N g H T n : Nat} {s : cS} {ct : Nat → List Nat} {hd : List Nat} {w w' : Wd} {pe : Nat → Int} {G : Gh}
theorem CR.re (h : CR F g H T s ct hd w pe) : reC F g H T ct hd w pe s := ⟨ct, fun _ _ => rfl, h⟩
theorem CR.h3 (h : CR F g H T s ct hd w pe) (hn : n < H) (h1 : 0 ≤ wN w n 3) : cI s 11 (nd g n) = nI (wN w n 3).toNat := by
  rw [(h.node hn).1.2.2.2.2.1, ← iI_n, Int.toNat_of_nonneg h1]
theorem CR.hQ (h : CR F g H T s ct hd w pe) : cI s 3 (g + 8) = nI (2 * F + 1) := h.2.2.2.2.2.1.2.2.2.1
theorem CR.hF (h : CR F g H T s ct hd w pe) : cI s 0 (g + 8) = nI F := h.2.2.2.2.2.1.1
theorem CR.h16 (h : CR F g H T s ct hd w pe) (hn : n < H) : cI s 16 (nd g n) = nI (beN (wN w n)) := (h.node hn).1.2.2.2.2.2.2.2.1
/-- votes of the height, by kinds -/
theorem vF2 {r so : Nat} {d : List Nat} {xo : Option Nat} (hN : 100 ≤ N) (cr : CR F g H T s ct hd w pe) (hn : n < H) (hu : wN w n 0 = 1) (hv : vtO T w n) (hr : r < 16) (hx : voF s xo so d) : p_X8_votesFor N g H T s (nd g n + 14) (nI 2) (nI (wN w n 1).toNat) (nI r) xo ∧ k_X8_votesFor N g H T s (nd g n + 14) (nI 2) (nI (wN w n 1).toNat) (nI r) xo = nI (cRd w n 0 r so d T) := votesFor_C (c := 0) hN cr hn hu hv (by decide) hr hx
theorem vF3 {r so : Nat} {d : List Nat} {xo : Option Nat} (hN : 100 ≤ N) (cr : CR F g H T s ct hd w pe) (hn : n < H) (hu : wN w n 0 = 1) (hv : vtO T w n) (hr : r < 16) (hx : voF s xo so d) : p_X8_votesFor N g H T s (nd g n + 14) (nI 3) (nI (wN w n 1).toNat) (nI r) xo ∧ k_X8_votesFor N g H T s (nd g n + 14) (nI 3) (nI (wN w n 1).toNat) (nI r) xo = nI (cRd w n 1 r so d T) := votesFor_C (c := 1) hN cr hn hu hv (by decide) hr hx
theorem vA2 {r : Nat} (hN : 100 ≤ N) (cr : CR F g H T s ct hd w pe) (hn : n < H) (hu : wN w n 0 = 1) (hv : vtO T w n) (hr : r < 16) : p_X8_votesInAll N g H T s (nd g n + 14) (nI 2) (nI (wN w n 1).toNat) (nI r) ∧ k_X8_votesInAll N g H T s (nd g n + 14) (nI 2) (nI (wN w n 1).toNat) (nI r) = nI (cRd w n 0 r 0 [] T) := votesInAll_C (c := 0) hN cr hn hu hv (by decide) hr
theorem vA3 {r : Nat} (hN : 100 ≤ N) (cr : CR F g H T s ct hd w pe) (hn : n < H) (hu : wN w n 0 = 1) (hv : vtO T w n) (hr : r < 16) : p_X8_votesInAll N g H T s (nd g n + 14) (nI 3) (nI (wN w n 1).toNat) (nI r) ∧ k_X8_votesInAll N g H T s (nd g n + 14) (nI 3) (nI (wN w n 1).toNat) (nI r) = nI (cRd w n 1 r 0 [] T) := votesInAll_C (c := 1) hN cr hn hu hv (by decide) hr
theorem awaitsPrecommits_C (hN : 100 ≤ N) (h : CR F g H T s ct hd w pe) (hn : n < H) (k : GN F H T G w n) (gk : giK (wN w n)) (hu : wN w n 0 = 1) : wp (p_X7_awaitsPrecommits N g H T s (some (nd g n))) (k_X7_awaitsPrecommits N g H T s (some (nd g n))) (rlC F g H T ct hd w pe (wN w n 8 = 0 ∧ 2 * F + 1 ≤ cRd w n 1 (wN w n 2).toNat 0 [] T) (sN (sN w n 8 1) n 11 ((wT w + 4 + (wN w n 2).toNat : Nat) : Int))) := by
  have cb := h.1.bb
  have cF : F ≤ 4 := h.1.2.1
  have o := k.ok h.1 gk
  have o1 := o.h
  have o2 := o.r
  have hv := k.vt cb.2.1
  obtain ⟨v1, v2⟩ := vA3 (N := N) (r := (wN w n 2).toNat) hN h hn hu hv (by omega)
  have kl := cRd_le (w := w) (n := n) (T := T) 1 (wN w n 2).toNat 0 []
  obtain ⟨-, -, b8, -, -, c8⟩ := be_and o.b5 o.b7 o.b8
  show wp (KO_X7_awaitsPrecommits_0 N g H T (some (nd g n)) s) (KF_X7_awaitsPrecommits_0 N g H T (some (nd g n)) s) _
  unfold KO_X7_awaitsPrecommits_0 KF_X7_awaitsPrecommits_0
  rw [zsome, h.h1 hn (by omega), h.h2 hn o2.1, h.hQ, h.h16 hn, v2]
  refine wp_and someN (wp_ite (fun c => ?_) (fun c => ?_)) <;> rw [b8] at c
  rotate_left
  · exact wp_fin trivial (Or.inr ⟨fun q => c q.1, rfl, h⟩)
  refine wp_and v1 (wp_ite (fun c2 => ?_) (fun c2 => ?_)) <;> rw [n_le' (by omega) (by omega)] at c2
  rotate_left
  · exact wp_fin trivial (Or.inr ⟨fun q => c2 q.2, rfl, h⟩)
  rw [c8 c]
  have c' := h.b8 hn hu
  have u' : wN (sN w n 8 1) n 0 = 1 := by rw [N_o _ _ _ _ (by omega)]; exact hu
  refine wp_call (setTimer_C (N := N) (t := 2) c' hn u' (by decide) (by rw [N_o _ _ _ _ (by omega)]; exact o2.1)) (fun q => ?_)
  unfold KO_X7_awaitsPrecommits_54 KF_X7_awaitsPrecommits_54
  have q1 := q.1
  rw [N_o _ _ _ _ (by omega)] at q1
  exact wp_fin trivial (Or.inl ⟨⟨c, c2⟩, rfl, q1.re⟩)
theorem awaitsPrevotes_C (hN : 100 ≤ N) (h : CR F g H T s ct hd w pe) (hn : n < H) (k : GN F H T G w n) (gk : giK (wN w n)) (hu : wN w n 0 = 1) : wp (p_X7_awaitsPrevotes N g H T s (some (nd g n))) (k_X7_awaitsPrevotes N g H T s (some (nd g n))) (rlC F g H T ct hd w pe (wN w n 3 = 1 ∧ wN w n 7 = 0 ∧ 2 * F + 1 ≤ cRd w n 0 (wN w n 2).toNat 0 [] T) (sN (sN w n 7 1) n 10 ((wT w + 4 + (wN w n 2).toNat : Nat) : Int))) := by
  have cb := h.1.bb
  have cF : F ≤ 4 := h.1.2.1
  have o := k.ok h.1 gk
  have o1 := o.h
  have o2 := o.r
  have o3 := o.s
  have hv := k.vt cb.2.1
  obtain ⟨v1, v2⟩ := vA2 (N := N) (r := (wN w n 2).toNat) hN h hn hu hv (by omega)
  have kl := cRd_le (w := w) (n := n) (T := T) 0 (wN w n 2).toNat 0 []
  obtain ⟨-, b7, -, -, c7, -⟩ := be_and o.b5 o.b7 o.b8
  show wp (KO_X7_awaitsPrevotes_0 N g H T (some (nd g n)) s) (KF_X7_awaitsPrevotes_0 N g H T (some (nd g n)) s) _
  unfold KO_X7_awaitsPrevotes_0 KF_X7_awaitsPrevotes_0 KO_X7_awaitsPrevotes_17 KF_X7_awaitsPrevotes_17
  rw [zsome, h.h1 hn (by omega), h.h2 hn o2.1, h.h3 hn o3.1, h.hQ, h.h16 hn, v2]
  refine wp_and someN (wp_ite (fun c0 => ?_) (fun c0 => ?_)) <;> rw [n_eq' (by omega) (by omega)] at c0
  rotate_left
  · exact wp_fin trivial (Or.inr ⟨fun q => by omega, rfl, h⟩)
  refine wp_ite (fun c => ?_) (fun c => ?_) <;> rw [b7] at c
  rotate_left
  · exact wp_fin trivial (Or.inr ⟨fun q => c q.2.1, rfl, h⟩)
  refine wp_and v1 (wp_ite (fun c2 => ?_) (fun c2 => ?_)) <;> rw [n_le' (by omega) (by omega)] at c2
  rotate_left
  · exact wp_fin trivial (Or.inr ⟨fun q => c2 q.2.2, rfl, h⟩)
  rw [c7 c]
  have c' := h.b7 hn hu
  have u' : wN (sN w n 7 1) n 0 = 1 := by rw [N_o _ _ _ _ (by omega)]; exact hu
  refine wp_call (setTimer_C (N := N) (t := 1) c' hn u' (by decide) (by rw [N_o _ _ _ _ (by omega)]; exact o2.1)) (fun q => ?_)
  unfold KO_X7_awaitsPrevotes_62 KF_X7_awaitsPrevotes_62
  have q1 := q.1
  rw [N_o _ _ _ _ (by omega)] at q1
  exact wp_fin trivial (Or.inl ⟨⟨by omega, c, c2⟩, rfl, q1.re⟩)
theorem precommitsNone_C (hN : 100 ≤ N) (h : CR F g H T s ct hd w pe) (hn : n < H) (hl : hd.length ≤ 25) (k : GN F H T G w n) (gk : giK (wN w n)) (hu : wN w n 0 = 1) (hp : pe n = -1) : wp (p_X7_precommitsNone N g H T s (some (nd g n))) (k_X7_precommitsNone N g H T s (some (nd g n))) (rlC F g H T ct hd w pe (wN w n 3 = 1 ∧ 2 * F + 1 ≤ cRd w n 0 (wN w n 2).toNat 1 [] T) (aVote w n T 3 2 none).2) := by
  have cb := h.1.bb
  have cF : F ≤ 4 := h.1.2.1
  have o := k.ok h.1 gk
  have o1 := o.h
  have o2 := o.r
  have o3 := o.s
  have hv := k.vt cb.2.1
  obtain ⟨v1, v2⟩ := vF2 (N := N) (r := (wN w n 2).toNat) (so := 1) (d := []) (xo := none) hN h hn hu hv (by omega) (Or.inl ⟨rfl, rfl⟩)
  have kl := cRd_le (w := w) (n := n) (T := T) 0 (wN w n 2).toNat 1 []
  obtain ⟨y1, y2⟩ := say_C (N := N) (kd := 3) (st := 2) (xo := none) (o := none) hN h hn hl (Or.inr rfl) (by decide) (k.uo h.1 gk hn hu) hp (Or.inl ⟨rfl, rfl⟩)
  show wp (KO_X7_precommitsNone_0 N g H T (some (nd g n)) s) (KF_X7_precommitsNone_0 N g H T (some (nd g n)) s) _
  unfold KO_X7_precommitsNone_0 KF_X7_precommitsNone_0 KO_X7_precommitsNone_35 KF_X7_precommitsNone_35
  rw [zsome, h.h1 hn (by omega), h.h2 hn o2.1, h.h3 hn o3.1, h.hQ, v2]
  refine wp_and someN (wp_ite (fun c0 => ?_) (fun c0 => ?_)) <;> rw [n_eq' (by omega) (by omega)] at c0
  rotate_left
  · exact wp_fin trivial (Or.inr ⟨fun q => by omega, rfl, h⟩)
  refine wp_and v1 (wp_ite (fun c2 => ?_) (fun c2 => ?_)) <;> rw [n_le' (by omega) (by omega)] at c2
  rotate_left
  · exact wp_fin trivial (Or.inr ⟨fun q => c2 q.2, rfl, h⟩)
  refine wp_and y1 ?_
  unfold KO_X7_precommitsNone_44 KF_X7_precommitsNone_44 KO_X7_precommitsNone_48 KF_X7_precommitsNone_48
  exact wp_fin ⟨y2.1, trivial⟩ (Or.inl ⟨⟨by omega, c2⟩, rfl, y2.2⟩)
theorem n_m1 {a : Nat} : nI (a + 1) - nI 1 = nI a := by
  rw [n_sub (by omega)]
  rfl
theorem n_m2 {a : Nat} : nI a + (-1) = nI a - nI 1 := by
  rw [Int32.sub_eq_add_neg]
  rfl
theorem skip_l {r : Nat} (hN : 100 ≤ N) (h : CR F g H T s ct hd w pe) (hn : n < H) (hu : wN w n 0 = 1) (k : GN F H T G w n) (e10 : cI s 10 (nd g n) = nI r) (hr : r < 16) : ∀ a f : Nat, a ≤ 16 → a < f → (∀ i, a ≤ i → i < 16 → ¬ (r < i ∧ F < ahC w n T i T)) → wp (KOL_X7_skips_14 N g H T f (some (nd g n)) (nI a - nI 1) s) (KL_X7_skips_14 N g H T f (some (nd g n)) (nI a - nI 1) s) (fun z => (∃ i, hst (fun i => r < i ∧ F < ahC w n T i T) 16 = some i ∧ i < 16 ∧ z = (0, some (nd g n), nI i, s)) ∨ (hst (fun i => r < i ∧ F < ahC w n T i T) 16 = none ∧ z = (1, none, 0, s)))
  | 0, f + 1, _, _, hI => by
    unfold KOL_X7_skips_14 KL_X7_skips_14 KOB_X7_skips_14 KB_X7_skips_14
    rw [zsome, e10]
    refine wp_and someN (wp_pos ?_ (wp_fin trivial (Or.inr ⟨hst_no 16 (fun i hi => hI i (by omega) hi), rfl⟩)))
    rw [show nI 0 - nI 1 = iI (-1) from rfl, ← iI_n, iI_le (by omega) (by omega) (by omega) (by omega)]
    omega
  | a + 1, f + 1, ha, hf, hI => by
    have cb := h.1.bb
    have cF : F ≤ 4 := h.1.2.1
    have hh := k.a.2.1
    obtain ⟨v1, v2⟩ := signers_C (N := N) (r := a) hN h hn hu k (by omega)
    have kl := ahC_le w n T a T
    unfold KOL_X7_skips_14 KL_X7_skips_14 KOB_X7_skips_14 KB_X7_skips_14
    rw [n_m1, zsome, e10, h.h1 hn (by omega), h.hF, v2]
    refine wp_and someN (wp_ite (fun c => ?_) (fun c => ?_)) <;> rw [n_le' (by omega) (by omega)] at c
    · refine wp_fin trivial (Or.inr ⟨hst_no 16 (fun i hi q => ?_), rfl⟩)
      by_cases e : a + 1 ≤ i
      · exact hI i e hi q
      · omega
    refine wp_and v1 (wp_ite (fun c2 => ?_) (fun c2 => ?_)) <;> rw [n_le' (by omega) (by omega)] at c2
    · rw [n_m2]
      refine skip_l hN h hn hu k e10 hr a f (by omega) (by omega) (fun i h1 h2 q => ?_)
      by_cases e : i = a
      · rw [e] at q
        omega
      · exact hI i (by omega) h2 q
    · exact wp_fin trivial (Or.inl ⟨a, hst_is (P := fun i => r < i ∧ F < ahC w n T i T) ⟨by omega, by omega⟩ 16 (by omega) (fun j j1 j2 => hI j (by omega) j2), by omega, rfl⟩)
theorem ahC_0 {r : Nat} (h4 : wY w n 4 (16 * ((wN w n 1).toNat % 2) + r) = none) (h5 : ∀ c k, c ≤ 1 → k < T → wY w n 5 (vq c ((wN w n 1).toNat % 2) r k) = none) : ∀ t, t ≤ T → ahC w n T r t = 0
  | 0, _ => rfl
  | t + 1, ht => by
    rw [(ahC_s (w := w) (n := n) (T := T) (r := r) (j := t)).2 (fun q => ?_)]
    · exact ahC_0 h4 h5 t (by omega)
    · rcases q with q | q | q
      · exact q (h5 0 t (by decide) (by omega))
      · exact q (h5 1 t (by decide) (by omega))
      · exact q.1 h4
theorem skips_C (hN : 100 ≤ N) (h : CR F g H T s ct hd w pe) (hn : n < H) (k : GN F H T G w n) (hu : wN w n 0 = 1) : wp (p_X7_skips N g H T s (some (nd g n))) (k_X7_skips N g H T s (some (nd g n))) (fun z => (∃ i, hst (fun i => (wN w n 2).toNat < i ∧ F < ahC w n T i T) 16 = some i ∧ i < 16 ∧ z.1 = nI 1 ∧ CR F g H T z.2 ct hd w (fun m => if m = n then (i : Int) else pe m)) ∨ (hst (fun i => (wN w n 2).toNat < i ∧ F < ahC w n T i T) 16 = none ∧ z = (nI 0, s))) := by
  have cb := h.1.bb
  have hh := k.a.2.1
  have h2 := k.a.2.2.1
  obtain ⟨t, t1, t2, t3, t4⟩ := top_C (N := N) (h := (wN w n 1).toNat) h hn hu
  show wp (KO_X7_skips_0 N g H T (some (nd g n)) s) (KF_X7_skips_0 N g H T (some (nd g n)) s) _
  unfold KO_X7_skips_0 KF_X7_skips_0
  rw [zsome, h.h1 hn (by omega), t3]
  refine wp_and someN (wp_and t2 (wp_seq (skip_l hN h hn hu k (h.h2 hn h2.1) (by omega) t N t1 (by omega) (fun i h1 h2' q => ?_)) (fun z hz => ?_)))
  · obtain ⟨q1, q2⟩ := t4 i h1 h2'
    have := ahC_0 q1 q2 T (Nat.le_refl _)
    omega
  · unfold KOA_X7_skips_14 KA_X7_skips_14 KO_X7_skips_44 KF_X7_skips_44 KO_X7_skips_57 KF_X7_skips_57
    rcases hz with ⟨i, z1, z2, z3⟩ | ⟨z1, z3⟩
    · have e0 : z.1 = 0 := by rw [z3]
      rw [if_pos e0, if_pos e0, z3]
      refine wp_fin ⟨someN, trivial⟩ (Or.inl ⟨i, z1, z2, rfl, ?_⟩)
      show CR F g H T (csI s 18 (nd g n) (nI i)) ct hd w (fun m => if m = n then (i : Int) else pe m)
      rw [← iI_n]
      exact h.pnd hn hu
    · have e0 : ¬ z.1 = 0 := by rw [z3]; exact (by decide : ¬ (1 : Nat) = 0)
      rw [if_neg e0, if_neg e0, z3]
      exact wp_fin trivial (Or.inr ⟨z1, rfl⟩)
end
end
