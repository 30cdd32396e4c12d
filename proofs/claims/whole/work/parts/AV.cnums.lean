section
/-! THE CLASS'S NODE: NUMBERS, TIMERS, LOCKED AND VALID -/
/-- a node's numbers become others -/
def sV (w : Wd) (n : Nat) (v : Nat → Int) : Wd := (fun n' k => if n' = n then v k else w.1 n' k, w.2)
section
variable {F N g H T n : Nat} {s s' s1 s2 : cS} {ct ct' : Nat → List Nat} {hd : List Nat} {w w' : Wd} {pe : Nat → Int} {a : Nat} {v v' : Nat → Int} {y y' : Nat → Nat → Option (List Nat)} {p : List (List Nat)} {x : Nat → Nat → Nat} {pn pn' : Int} {z : Nat → Nat → Option (List Nat)}
theorem sV_n : wN (sV w n v) n = v := funext fun k => by
  show (if n = n then v k else w.1 n k) = v k
  rw [if_pos rfl]
theorem sV_o {m : Nat} (h : m ≠ n) : wN (sV w n v) m = wN w m := funext fun k => by
  show (if m = n then v k else w.1 m k) = w.1 m k
  rw [if_neg h]
theorem sN_V {k : Nat} {i : Int} : sN w n k i = sV w n (fun j => if j = k then i else wN w n j) := by
  unfold sN sV
  refine Prod.ext (funext fun m => funext fun j => ?_) rfl
  show (if m = n ∧ j = k then i else w.1 m j) = if m = n then (if j = k then i else w.1 n j) else w.1 m j
  by_cases c : m = n
  · subst c
    rw [if_pos rfl]
    by_cases d : j = k
    · rw [if_pos ⟨rfl, d⟩, if_pos d]
    · rw [if_neg (fun q => d q.2), if_neg d]
  · rw [if_neg (fun q => c q.1), if_neg c]
theorem sV_V : sV (sV w n v) n v' = sV w n v' := by
  unfold sV
  refine Prod.ext (funext fun m => funext fun j => ?_) rfl
  show (if m = n then v' j else if m = n then v j else w.1 m j) = if m = n then v' j else w.1 m j
  by_cases c : m = n
  · rw [if_pos c, if_pos c]
  · rw [if_neg c, if_neg c, if_neg c]
theorem owZ_up (h : owZ T n v y z) (h0 : v 0 = 1) (h0' : v' 0 = 1) (hy : ∀ f i, f = 4 ∨ f = 5 → y' f i = y f i) : owZ T n v' y' z := ⟨fun _ f i hf => (h.1 h0 f i hf).trans (hy f i hf).symm, fun q => absurd h0' q⟩
/-- numbers of a node that is up change -/
theorem CR.num {k : Nat} {x0 : Int32} (h : CR F g H T s ct hd w pe) (hn : n < H) (hu : wN w n 0 = 1) (hq : qN (cI (csI s k (nd g n) x0)) (nd g n) n v' pn') (hv : ∀ j, j = 0 ∨ j = 1 ∨ (9 ≤ j ∧ j ≠ 17) → v' j = wN w n j) : CR F g H T (csI s k (nd g n) x0) ct hd (sV w n v') (fun m => if m = n then pn' else pe m) := by
  obtain ⟨z, cz, oz⟩ := h.z_ hn
  have a1 := cz.n0 (v' := v') (pn' := pn') hn hq (fun j hj => hv j (by omega))
  exact a1.cr (owZ_up oz hu ((hv 0 (Or.inl rfl)).trans hu) (fun _ _ _ => rfl)) (fun m hm => ⟨sV_o hm, rfl, rfl, rfl⟩) rfl rfl rfl (fun m hm => if_neg hm) (if_pos rfl) sV_n rfl rfl rfl
/-- one number of a node that is up -/
theorem CR.n1 {k j : Nat} {i : Int} (h : CR F g H T s ct hd w pe) (hn : n < H) (hu : wN w n 0 = 1) (hk : (k = 10 ∧ j = 2) ∨ (k = 11 ∧ j = 3) ∨ (k = 12 ∧ j = 4) ∨ (k = 13 ∧ j = 5) ∨ (k = 17 ∧ j = 17)) : CR F g H T (csI s k (nd g n) (iI i)) ct hd (sN w n j i) pe := by
  have e : pe = fun m => if m = n then pe n else pe m := funext fun m => by
    by_cases c : m = n
    · rw [if_pos c, c]
    · rw [if_neg c]
  rw [sN_V, e]
  refine h.num hn hu ?_ (fun j' hj => if_neg (by omega))
  obtain ⟨q1, q2, q3, q4, q5, q6, q7, q8, q9, q10⟩ := (h.node hn).1
  rcases hk with ⟨rfl, rfl⟩ | ⟨rfl, rfl⟩ | ⟨rfl, rfl⟩ | ⟨rfl, rfl⟩ | ⟨rfl, rfl⟩ <;> (
    unfold qN beN
    rw [cI_same, cI_other _ _ (Or.inl (by decide)), cI_other _ _ (Or.inl (by decide)), cI_other _ _ (Or.inl (by decide)), cI_other _ _ (Or.inl (by decide)), cI_other _ _ (Or.inl (by decide)), cI_other _ _ (Or.inl (by decide)), cI_other _ _ (Or.inl (by decide)), cI_other _ _ (Or.inl (by decide)), cI_other _ _ (Or.inl (by decide))])
  · exact ⟨q1, q2, q3, rfl, q5, q6, q7, q8, q9, q10⟩
  · exact ⟨q1, q2, q3, q4, rfl, q6, q7, q8, q9, q10⟩
  · exact ⟨q1, q2, q3, q4, q5, rfl, q7, q8, q9, q10⟩
  · exact ⟨q1, q2, q3, q4, q5, q6, rfl, q8, q9, q10⟩
  · exact ⟨q1, q2, q3, q4, q5, q6, q7, q8, rfl, q10⟩
/-- what has been -/
theorem CR.n6 {b6 b7 b8 : Int} (h : CR F g H T s ct hd w pe) (hn : n < H) (hu : wN w n 0 = 1) : CR F g H T (csI s 16 (nd g n) (nI (b6.toNat + 2 * b7.toNat + 4 * b8.toNat))) ct hd (sN (sN (sN w n 6 b6) n 7 b7) n 8 b8) pe := by
  have e : pe = fun m => if m = n then pe n else pe m := funext fun m => by
    by_cases c : m = n
    · rw [if_pos c, c]
    · rw [if_neg c]
  have e2 : sN (sN (sN w n 6 b6) n 7 b7) n 8 b8 = sV w n (fun j => if j = 8 then b8 else if j = 7 then b7 else if j = 6 then b6 else wN w n j) := by
    rw [sN_V (w := w), sN_V (k := 7), sV_V, sV_n, sN_V, sV_V, sV_n]
  rw [e2, e]
  refine h.num hn hu ?_ (fun j' hj => ?_)
  · obtain ⟨q1, q2, q3, q4, q5, q6, q7, q8, q9, q10⟩ := (h.node hn).1
    unfold qN beN
    rw [cI_same, cI_other _ _ (Or.inl (by decide)), cI_other _ _ (Or.inl (by decide)), cI_other _ _ (Or.inl (by decide)), cI_other _ _ (Or.inl (by decide)), cI_other _ _ (Or.inl (by decide)), cI_other _ _ (Or.inl (by decide)), cI_other _ _ (Or.inl (by decide)), cI_other _ _ (Or.inl (by decide)), cI_other _ _ (Or.inl (by decide))]
    exact ⟨q1, q2, q3, q4, q5, q6, q7, rfl, q9, q10⟩
  · show (if j' = 8 then b8 else if j' = 7 then b7 else if j' = 6 then b6 else wN w n j') = _
    rw [if_neg (by omega), if_neg (by omega), if_neg (by omega)]
/-- what is pending -/
theorem CR.pnd {i : Int} (h : CR F g H T s ct hd w pe) (hn : n < H) (hu : wN w n 0 = 1) : CR F g H T (csI s 18 (nd g n) (iI i)) ct hd w (fun m => if m = n then i else pe m) := by
  have e : w = sV w n (wN w n) := by
    unfold sV
    refine Prod.ext (funext fun m => funext fun j => ?_) rfl
    show w.1 m j = if m = n then w.1 n j else w.1 m j
    by_cases c : m = n
    · rw [if_pos c, c]
    · rw [if_neg c]
  have a1 := h.num (k := 18) (x0 := iI i) (v' := wN w n) (pn' := i) hn hu ?_ (fun _ _ => rfl)
  · rw [← e] at a1
    exact a1
  · obtain ⟨q1, q2, q3, q4, q5, q6, q7, q8, q9, q10⟩ := (h.node hn).1
    unfold qN
    rw [cI_same, cI_other _ _ (Or.inl (by decide)), cI_other _ _ (Or.inl (by decide)), cI_other _ _ (Or.inl (by decide)), cI_other _ _ (Or.inl (by decide)), cI_other _ _ (Or.inl (by decide)), cI_other _ _ (Or.inl (by decide)), cI_other _ _ (Or.inl (by decide)), cI_other _ _ (Or.inl (by decide)), cI_other _ _ (Or.inl (by decide))]
    exact ⟨q1, q2, q3, q4, q5, q6, q7, q8, q9, rfl⟩
/-- a timer is set -/
theorem setTimer_C {t : Nat} (h : CR F g H T s ct hd w pe) (hn : n < H) (hu : wN w n 0 = 1) (ht : t < 3) (h2 : 0 ≤ wN w n 2) : wp (p_X6_setTimer N g H T s (nd g n) (nI t)) (k_X6_setTimer N g H T s (nd g n) (nI t)) (fun s' => CR F g H T s' ct hd (sN w n (9 + t) ((wT w + 4 + (wN w n 2).toNat : Nat) : Int)) pe ∧ pfr g H s s' ∧ ∀ k b, cI s' k b = cI s k b) := by
  show wp (KO_X6_setTimer_0 N g H T (some (nd g n)) (nI t) s) (KF_X6_setTimer_0 N g H T (some (nd g n)) (nI t) s) _
  unfold KO_X6_setTimer_0 KF_X6_setTimer_0 KO_X6_setTimer_36 KF_X6_setTimer_36
  have i10 : cI s 10 (nd g n) = iI (wN w n 2) := (h.node hn).1.2.2.2.1
  have t10 : cI s 10 (g + 11) = nI (wT w) := h.2.2.2.2.2.2.1.2.2.2
  rw [zsome, i10, t10]
  have e2 : iI (wN w n 2) = nI (wN w n 2).toNat := by
    rw [← iI_n]
    congr 1
    omega
  rw [e2, n_add, n_add]
  have n0 : ¬ nI t < 0 := by rcases (show t = 0 ∨ t = 1 ∨ t = 2 by omega) with rfl | rfl | rfl <;> decide
  have n3 : ¬ nI 3 ≤ nI t := by rcases (show t = 0 ∨ t = 1 ∨ t = 2 by omega) with rfl | rfl | rfl <;> decide
  refine wp_neg n0 (wp_and someN (wp_neg n3 (wp_and ((n_in (by omega)).2 (by omega)) (wp_fin trivial ?_))))
  rw [nI_clamp (by omega)]
  have q := (h.node hn).2.1
  obtain ⟨z, cz, oz⟩ := h.z_ hn
  have b1 := cz.tm (f := upd (cA s (nd g n + 12)) t (nI (wT w + 4 + (wN w n 2).toNat))) (v' := fun j => if j = 9 + t then ((wT w + 4 + (wN w n 2).toNat : Nat) : Int) else wN w n j) hn (fun i hi => ?_) (fun j hj => if_neg (by omega))
  · refine ⟨?_, ⟨rfl, fun _ _ _ _ => rfl, fun _ _ _ _ => rfl⟩, fun _ _ => rfl⟩
    rw [sN_V]
    exact b1.cr (owZ_up oz hu ((if_neg (by omega)).trans hu) (fun _ _ _ => rfl)) (fun m hm => ⟨sV_o hm, rfl, rfl, rfl⟩) rfl rfl rfl (fun m hm => rfl) rfl sV_n rfl rfl rfl
  · by_cases c : i = t
    · subst c
      rw [upd_same]
      show _ = iI (tmC (if 9 + i = 9 + i then ((wT w + 4 + (wN w n 2).toNat : Nat) : Int) else wN w n (9 + i)))
      rw [if_pos rfl, ← iI_n]
      unfold tmC
      rw [if_neg (by omega)]
    · rw [upd_other _ _ c]
      show _ = iI (tmC (if 9 + i = 9 + t then ((wT w + 4 + (wN w n 2).toNat : Nat) : Int) else wN w n (9 + i)))
      rw [if_neg (by omega)]
      exact q i hi
end
end
