section
/-! THE CLASS'S NODE BEGINS A ROUND: with its note -/
section
variable {F N g H T n : Nat} {s s' s1 s2 X : cS} {ct ct' : Nat → List Nat} {hd : List Nat} {w w' : Wd} {pe : Nat → Int} {r : Nat}
theorem bg_W (j : (aOwn w n (ownT w n 2 [r])).1 = true) : aBegin w n T r = bgW (aNew (aOwn w n (ownT w n 2 [r])).2 n r) n T r := by
  obtain ⟨o1, o2, o3, o4, o5, o6, o7, o8⟩ := aOwn_w j
  unfold aBegin
  rw [if_pos j]
  generalize (aOwn w n (ownT w n 2 [r])).2 = w2 at o1 o2 o3 o4 o5 o6 o7 o8 ⊢
  have e1 : wN (aNew w2 n r) n 1 = wN w n 1 := (aNew_N w2 n r (Or.inr (by omega))).trans (o2 1 (by omega))
  have e5 : wN (aNew w2 n r) n 5 = wN w n 5 := (aNew_N w2 n r (Or.inr (by omega))).trans (o2 5 (by omega))
  have ey : wY (aNew w2 n r) n 1 0 = wY w n 1 0 := by
    show wY w2 n 1 0 = wY w n 1 0
    rw [o5]
  unfold bgW
  rw [e1, e5, ey]
  cases wY w n 1 0 <;> rfl
theorem begin_C (hN : 2100 ≤ N) (h : CR F g H T s ct hd w pe) (hn : n < H) (hl : hd.length ≤ 25) (hu : wN w n 0 = 1) (h1 : 1 ≤ wN w n 1 ∧ wN w n 1 ≤ 41) (h15 : 0 ≤ wN w n 15 ∧ wN w n 15 ≤ 99) (h12 : 0 ≤ wN w n 12 ∧ wN w n 12 ≤ 1000) (hr : r < 16) (hp : pe n = (r : Int)) (hf : cI s 5 (nd g n + 6) = nI 0) (ow : owF T n (wN w n) (wY w n)) (o : (aOwn w n (ownT w n 2 [r])).1 = true → prO F H T (aNew (aOwn w n (ownT w n 2 [r])).2 n r) n) : wp (p_X7_begin N g H T s (some (nd g n))) (k_X7_begin N g H T s (some (nd g n))) (reC F g H T ct hd (aBegin w n T r) (fun m => if m = n then -1 else pe m)) := by
  show wp (KO_X7_begin_0 N g H T (some (nd g n)) s) (KF_X7_begin_0 N g H T (some (nd g n)) s) _
  unfold KO_X7_begin_0 KF_X7_begin_0
  have i18 : cI s 18 (nd g n) = nI r := by
    have q := (h.node hn).1.2.2.2.2.2.2.2.2.2
    rw [hp, iI_n] at q
    exact q
  have a1 := h.pnd (i := -1) hn hu
  rw [iI_m1] at a1
  have f1 : cI (csI s 18 (nd g n) (-1)) 5 (nd g n + 6) = nI 0 := (cI_other _ _ (Or.inl (by decide))).trans hf
  rw [zsome, i18]
  generalize csI s 18 (nd g n) (-1) = s1 at a1 f1 ⊢
  have i9 : cI s1 9 (nd g n) = iI (wN w n 1) := (a1.node hn).1.2.2.1
  have hc : nd g n + 6 < cn s1 := by
    have := a1.2.2.1
    unfold nd at *
    omega
  rw [i9]
  refine wp_and someN (wp_call (jot_C (N := N) (kd := 2) (b1 := r) (fr := 0) (mo := none) (x := []) (by omega) a1 hn (by decide) h1 (by omega) h15 h12 (Or.inl ⟨rfl, rfl⟩) (by decide)) ?_)
  rintro ⟨jt, jf⟩
  have f2 := (I5_jot (N := N) (g := g) (H := H) (T := T) (s := s1) (a := nd g n + 1) (x1 := nI 2) (x2 := iI (wN w n 1)) (x3 := nI r) (x5 := nI 0) (x4 := none)).2 _ hc
  rw [f1] at f2
  generalize k_X4_jot N g H T s1 (nd g n + 1) (nI 2) (iI (wN w n 1)) (nI r) none (nI 0) = Z at jt jf f2 ⊢
  unfold KO_X7_begin_25 KF_X7_begin_25
  rw [zsome]
  rcases jt with ⟨j1, j2, j3⟩ | ⟨j1, j2, j3, j4⟩
  · rw [j2, bg_W j1]
    have po := o j1
    have u2 : wN (aOwn w n (ownT w n 2 [r])).2 n 0 = 1 := by
      rw [(aOwn_w j1).2.1 0 (by omega)]
      exact hu
    refine wp_neg (by decide) (wp_and someN ?_)
    generalize (aOwn w n (ownT w n 2 [r])).2 = w2 at j3 po u2 ⊢
    refine begin_43 (by omega) j3 hn u2 hr rfl (fun X cX pX iX => ?_)
    exact begin_61 hN cX hn hl (if_pos rfl) po hr (by rw [iX _ (by omega)]; exact f2)
  · have eW : aBegin w n T r = aFall (aWr w n (ownT w n 2 [r]) (80 + 2 * (wN w n 15).toNat)) n := by
      unfold aBegin
      rw [if_neg (by rw [j1]; decide)]
      exact j4
    rw [j2, eW]
    have k0 := aWr_k (w := w) (n := n) (t := ownT w n 2 [r]) (f := 80 + 2 * (wN w n 15).toNat) (k := 0) (by decide) (by decide) (by decide)
    have k1 := aWr_k (w := w) (n := n) (t := ownT w n 2 [r]) (f := 80 + 2 * (wN w n 15).toNat) (k := 1) (by decide) (by decide) (by decide)
    have k17 := aWr_k (w := w) (n := n) (t := ownT w n 2 [r]) (f := 80 + 2 * (wN w n 15).toNat) (k := 17) (by decide) (by decide) (by decide)
    have ky : wY (aWr w n (ownT w n 2 [r]) (80 + 2 * (wN w n 15).toNat)) = wY w := rfl
    generalize aWr w n (ownT w n 2 [r]) (80 + 2 * (wN w n 15).toNat) = w1 at j3 k0 k1 k17 ky ⊢
    have ow' : owF T n (wN w1 n) (wY w1 n) := by
      rw [ky]
      unfold owF owH
      rw [k1, k17]
      exact ow
    have fl := fall_C (N := N) (by omega) j3 hn (by omega) (by rw [k0]; exact hu) (by rw [k1]; exact h1) ow'
    have ep : (fun m => if m = n then -1 else (fun m => if m = n then -1 else pe m) m) = fun m => if m = n then -1 else pe m := funext fun m => by
      by_cases c : m = n
      · rw [if_pos c, if_pos c]
      · rw [if_neg c]
    rw [ep] at fl
    exact wp_pos rfl (wp_fin ⟨⟨someN, fl.1⟩, trivial⟩ ⟨ct, fun _ _ => rfl, fl.2⟩)
end
end
