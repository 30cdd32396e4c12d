section
/-! THE CLASS'S NODE BEGINS A ROUND -/
section
variable {F N g H T n : Nat} {s s' s1 s2 X : cS} {ct ct' : Nat → List Nat} {hd : List Nat} {w w' : Wd} {pe : Nat → Int} {r : Nat}
theorem proposer_c {h : Nat} (eT : cI s 1 (g + 8) = nI T) (hT : 4 ≤ T ∧ T ≤ 13) (hh : h ≤ 100) (hr : r ≤ 100) : p_X10_proposer N g H T s (g + 8) (nI h) (nI r) ∧ k_X10_proposer N g H T s (g + 8) (nI h) (nI r) = nI ((h + r) % T) := by
  show wp (KO_X10_proposer_0 N g H T (g + 8) (nI h) (nI r) s) (KF_X10_proposer_0 N g H T (g + 8) (nI h) (nI r) s) (fun z => z = nI ((h + r) % T))
  unfold KO_X10_proposer_0 KF_X10_proposer_0 KO_X10_proposer_19 KF_X10_proposer_19
  rw [eT, n_add]
  have h0 : (0 : Int32) = nI 0 := rfl
  refine wp_pos (by rw [h0, n_lt' (by omega) (by omega)]; omega) (wp_and (by rw [h0, n_eq' (by omega) (by omega)]; omega) (wp_fin trivial ?_))
  exact n_mod (by omega) (by omega)
/-- the numbers of a new round -/
theorem new_V (h2 : wN w n 0 = 1) : aNew w n r = sV w n (fun k => if k = 2 then (r : Int) else if k = 3 then 0 else if 6 ≤ k ∧ k ≤ 8 then 0 else if k = 9 then ((wT w + 4 + r : Nat) : Int) else if k = 10 ∨ k = 11 then -1 else wN w n k) := by
  unfold aNew sV
  refine Prod.ext (funext fun m => funext fun j => ?_) rfl
  show (if m = n then (if j = 2 then (r : Int) else if j = 3 then 0 else if 6 ≤ j ∧ j ≤ 8 then 0 else if j = 9 then ((wT w + 4 + r : Nat) : Int) else if j = 10 ∨ j = 11 then -1 else w.1 m j) else w.1 m j) = if m = n then (if j = 2 then (r : Int) else if j = 3 then 0 else if 6 ≤ j ∧ j ≤ 8 then 0 else if j = 9 then ((wT w + 4 + r : Nat) : Int) else if j = 10 ∨ j = 11 then -1 else w.1 n j) else w.1 m j
  by_cases c : m = n
  · rw [c]
  · rw [if_neg c, if_neg c]
/-- timers are cleared -/
def tmW (w : Wd) (n : Nat) : Wd := sV w n (fun k => if 9 ≤ k ∧ k ≤ 11 then -1 else wN w n k)
theorem fill_T (hN : 10 ≤ N) (h : CR F g H T s ct hd w pe) (hn : n < H) (hu : wN w n 0 = 1) : wp (p_J7_fill_53178 N g H T s (some (nd g n + 12)) (nI 0)) (k_J7_fill_53178 N g H T s (some (nd g n + 12)) (nI 0)) (fun Z => CR F g H T Z ct hd (tmW w n) pe ∧ pfr g H s Z ∧ ∀ k b, cI Z k b = cI s k b) := by
  have L : cL s (nd g n + 12) = 3 := h.2.1.rl (c := 5) (k := 6) (isO5 hn) rfl (by omega) (by omega)
  refine wp_mono (fill_C (N := N) (g := g) (H := H) (T := T) (r := nd g n + 12) hN L) ?_
  rintro ⟨f, fe, ff⟩
  rw [fe]
  obtain ⟨z, cz, oz⟩ := h.z_ hn
  have b1 := cz.tm (f := f) (v' := fun k => if 9 ≤ k ∧ k ≤ 11 then -1 else wN w n k) hn (fun i hi => ?_) (fun j hj => if_neg (by omega))
  · refine ⟨?_, ⟨rfl, fun _ _ _ _ => rfl, fun _ _ _ _ => rfl⟩, fun _ _ => rfl⟩
    exact b1.cr (w' := tmW w n) (owZ_up oz hu ((if_neg (by omega)).trans hu) (fun _ _ _ => rfl)) (fun m hm => ⟨sV_o hm, rfl, rfl, rfl⟩) rfl rfl rfl (fun m hm => rfl) rfl sV_n rfl rfl rfl
  · rw [ff i hi]
    show nI 0 = iI (tmC (if 9 ≤ 9 + i ∧ 9 + i ≤ 11 then -1 else wN w n (9 + i)))
    rw [if_pos (by omega)]
    rfl
/-- what is changed when a round is begun -/
theorem begin_43 {P : cS → Prop} {x1 : Int32} (hN : 100 ≤ N) (h : CR F g H T s ct hd w pe) (hn : n < H) (hu : wN w n 0 = 1) (hr : r < 16) (hx : x1 = nI r) (go : ∀ X, CR F g H T X ct hd (aNew w n r) pe → pfr g H s X → (∀ b, nd g n < b → ∀ k, cI X k b = cI s k b) → wp (KO_X7_begin_61 N g H T (some (nd g n)) x1 X) (KF_X7_begin_61 N g H T (some (nd g n)) x1 X) P) : wp (KO_X7_begin_43 N g H T (some (nd g n)) x1 (csI (csI s 10 (nd g n) x1) 11 (nd g n) (nI 0))) (KF_X7_begin_43 N g H T (some (nd g n)) x1 (csI (csI s 10 (nd g n) x1) 11 (nd g n) (nI 0))) P := by
  have a1 := h.n1 (k := 10) (j := 2) (i := (r : Int)) hn hu (Or.inl ⟨rfl, rfl⟩)
  rw [iI_n, ← hx] at a1
  have i1 : ∀ b, nd g n < b → ∀ k, cI (csI s 10 (nd g n) x1) k b = cI s k b := fun b hb k => cI_other _ _ (Or.inr (by omega))
  have u1 : wN (sN w n 2 r) n 0 = 1 := by rw [N_o _ _ _ _ (Or.inr (by decide))]; exact hu
  have p1 : pfr g H s (csI s 10 (nd g n) x1) := ⟨rfl, fun _ _ _ _ => rfl, fun _ _ _ _ => rfl⟩
  generalize csI s 10 (nd g n) x1 = s1 at a1 i1 p1 ⊢
  have a2 := a1.n1 (k := 11) (j := 3) (i := 0) hn u1 (Or.inr (Or.inl ⟨rfl, rfl⟩))
  rw [show iI 0 = nI 0 from rfl] at a2
  have i2 : ∀ b, nd g n < b → ∀ k, cI (csI s1 11 (nd g n) (nI 0)) k b = cI s k b := fun b hb k => (cI_other _ _ (Or.inr (by omega))).trans (i1 b hb k)
  have u2 : wN (sN (sN w n 2 r) n 3 0) n 0 = 1 := by rw [N_o _ _ _ _ (Or.inr (by decide))]; exact u1
  have p2 : pfr g H s (csI s1 11 (nd g n) (nI 0)) := p1.trans ⟨rfl, fun _ _ _ _ => rfl, fun _ _ _ _ => rfl⟩
  generalize csI s1 11 (nd g n) (nI 0) = s2 at a2 i2 p2 ⊢
  unfold KO_X7_begin_43 KF_X7_begin_43
  rw [zsome]
  have a3 := a2.n6 (b6 := 0) (b7 := 0) (b8 := 0) hn u2
  rw [show nI ((0 : Int).toNat + 2 * (0 : Int).toNat + 4 * (0 : Int).toNat) = nI 0 from rfl] at a3
  have i3 : ∀ b, nd g n < b → ∀ k, cI (csI s2 16 (nd g n) (nI 0)) k b = cI s k b := fun b hb k => (cI_other _ _ (Or.inr (by omega))).trans (i2 b hb k)
  have u3 : wN (sN (sN (sN (sN (sN w n 2 r) n 3 0) n 6 0) n 7 0) n 8 0) n 0 = 1 := by
    rw [N_o _ _ _ _ (Or.inr (by decide)), N_o _ _ _ _ (Or.inr (by decide)), N_o _ _ _ _ (Or.inr (by decide))]
    exact u2
  have p3 : pfr g H s (csI s2 16 (nd g n) (nI 0)) := p2.trans ⟨rfl, fun _ _ _ _ => rfl, fun _ _ _ _ => rfl⟩
  generalize csI s2 16 (nd g n) (nI 0) = s3 at a3 i3 p3 ⊢
  refine wp_and someN (wp_call (fill_T (N := N) (by omega) a3 hn u3) ?_)
  rintro ⟨a4, p4, i4⟩
  generalize k_J7_fill_53178 N g H T s3 (some (nd g n + 12)) (nI 0) = s4 at a4 p4 i4 ⊢
  have eW : tmW (sN (sN (sN (sN (sN w n 2 r) n 3 0) n 6 0) n 7 0) n 8 0) n = sV w n (fun k => if 9 ≤ k ∧ k ≤ 11 then -1 else if k = 8 then 0 else if k = 7 then 0 else if k = 6 then 0 else if k = 3 then 0 else if k = 2 then (r : Int) else wN w n k) := by
    unfold tmW
    rw [sN_V (w := w), sN_V (k := 3), sV_V, sV_n, sN_V (k := 6), sV_V, sV_n, sN_V (k := 7), sV_V, sV_n, sN_V (k := 8), sV_V, sV_n, sV_V, sV_n]
  rw [eW] at a4
  unfold KO_X7_begin_56 KF_X7_begin_56
  rw [zsome]
  have u4 : wN (sV w n (fun k => if 9 ≤ k ∧ k ≤ 11 then -1 else if k = 8 then 0 else if k = 7 then 0 else if k = 6 then 0 else if k = 3 then 0 else if k = 2 then (r : Int) else wN w n k)) n 0 = 1 := by
    rw [sV_n]
    exact hu
  have r4 : wN (sV w n (fun k => if 9 ≤ k ∧ k ≤ 11 then -1 else if k = 8 then 0 else if k = 7 then 0 else if k = 6 then 0 else if k = 3 then 0 else if k = 2 then (r : Int) else wN w n k)) n 2 = (r : Int) := by
    rw [sV_n]
    rfl
  have sT := setTimer_C (N := N) (t := 0) a4 hn u4 (by decide) (by rw [r4]; omega)
  refine wp_and ⟨someN, sT.1⟩ ?_
  obtain ⟨a5, p5, i5⟩ := sT.2
  generalize k_X6_setTimer N g H T s4 (nd g n) (nI 0) = s5 at a5 p5 i5 ⊢
  have eN : sN (sV w n (fun k => if 9 ≤ k ∧ k ≤ 11 then -1 else if k = 8 then 0 else if k = 7 then 0 else if k = 6 then 0 else if k = 3 then 0 else if k = 2 then (r : Int) else wN w n k)) n (9 + 0) ((wT (sV w n (fun k => if 9 ≤ k ∧ k ≤ 11 then -1 else if k = 8 then 0 else if k = 7 then 0 else if k = 6 then 0 else if k = 3 then 0 else if k = 2 then (r : Int) else wN w n k)) + 4 + (wN (sV w n (fun k => if 9 ≤ k ∧ k ≤ 11 then -1 else if k = 8 then 0 else if k = 7 then 0 else if k = 6 then 0 else if k = 3 then 0 else if k = 2 then (r : Int) else wN w n k)) n 2).toNat : Nat) : Int) = aNew w n r := by
    rw [r4, new_V hu, sN_V, sV_V, sV_n]
    have eT : wT (sV w n (fun k => if 9 ≤ k ∧ k ≤ 11 then -1 else if k = 8 then 0 else if k = 7 then 0 else if k = 6 then 0 else if k = 3 then 0 else if k = 2 then (r : Int) else wN w n k)) = wT w := rfl
    rw [eT, Int.toNat_natCast]
    congr 1
    funext k
    rcases (show k = 2 ∨ k = 3 ∨ k = 6 ∨ k = 7 ∨ k = 8 ∨ k = 9 ∨ k = 10 ∨ k = 11 ∨ (¬ k = 2 ∧ ¬ k = 3 ∧ ¬ (6 ≤ k ∧ k ≤ 11)) by omega) with rfl | rfl | rfl | rfl | rfl | rfl | rfl | rfl | ⟨k2, k3, k6⟩
    · rfl
    · rfl
    · rfl
    · rfl
    · rfl
    · rfl
    · rfl
    · rfl
    · have e1 : (if k = 9 + 0 then ((wT w + 4 + r : Nat) : Int) else if 9 ≤ k ∧ k ≤ 11 then -1 else if k = 8 then 0 else if k = 7 then 0 else if k = 6 then 0 else if k = 3 then 0 else if k = 2 then (r : Int) else wN w n k) = wN w n k := by
        rw [if_neg (by omega), if_neg (by omega), if_neg (by omega), if_neg (by omega), if_neg (by omega), if_neg k3, if_neg k2]
      have e2 : (if k = 2 then (r : Int) else if k = 3 then 0 else if 6 ≤ k ∧ k ≤ 8 then 0 else if k = 9 then ((wT w + 4 + r : Nat) : Int) else if k = 10 ∨ k = 11 then -1 else wN w n k) = wN w n k := by
        rw [if_neg k2, if_neg k3, if_neg (by omega), if_neg (by omega), if_neg (by omega)]
      exact e1.trans e2.symm
  rw [eN] at a5
  exact go s5 a5 ((p3.trans p4).trans p5) (fun b hb k => by rw [i5, i4, i3 b hb k])
end
end
