section
/-! CALLS OF THE CLASS: the way of a part to its block's root -/
section
variable {F N g H T n k : Nat} {s s0 s1 S X : cS} {ct : Nat → List Nat} {hd : List Nat} {w w' V W : Wd} {pe : Nat → Int} {a b : Nat} {G : Gh} {m : List Nat} {x y u v : Int32}
/-- a block that stands at a row's start -/
theorem atR_0 {r : Nat} {B : List Nat} (hS : St 0 g H T X) (hK : cK X r = 20) (hl : cL X r ≤ 3000) (hB : cB X r B) (hw : blkWf T B) : ∃ R, atR X r 0 R B := by
  obtain ⟨w1, w2, w3, w4, w5, w6, w7, w8, w9⟩ := hw
  have hR := hS.row hK hl
  obtain ⟨R, hRe⟩ : ∃ R, R = mkB (cL X r) (fun i => nb (cA X r i)) := ⟨_, rfl⟩
  rw [← hRe] at hR
  have Rl : R.length = cL X r := by rw [hRe, mkB_len]
  have ll := hB.1
  have rB : ∀ i, i < B.length → bg R i = bg B i := fun i hi => by
    have e1 := hR.2.2.1 i (by omega)
    rw [hB.2.2.1 i hi] at e1
    exact ((sb_inj (hB.2.2.2 i) (hR.2.2.2 i)).1 e1).symm
  refine ⟨R, hR, Rl, by omega, fun i hi => by rw [Nat.zero_add]; exact rB i hi, w1, w5, w4, by omega, fun k hk => ?_⟩
  obtain ⟨h1, _, _, _, _, _, h7⟩ := w6 k hk
  unfold evC evSz
  rw [Nat.zero_add]
  have g5 : bg R (evP B k + 5) = bg B (evP B k + 5) := rB _ (by omega)
  have g6 : bg R (evP B k + 6) = bg B (evP B k + 6) := rB _ (by omega)
  have g38 : bg R (evP B k + 38) = bg B (evP B k + 38) := rB _ (by omega)
  rw [g5, g6, g38]
  rcases h7 with h7 | h7
  · rw [if_pos (by omega), if_neg (by omega)]; rfl
  · rw [if_neg (by omega), if_pos (by omega), if_pos (by omega)]; rfl
theorem path_C {r : Int64} (hN : 12000 ≤ N) (h : clW F g H T s w) (iv : IV F H T w) (hv : paA w H x y u v r) : wp (p_X11_path N g H T s g x y u v) (k_X11_path N g H T s g x y u v) (fun z => z.1 = r ∧ clW F g H T z.2 w) := by
  have h' := h
  obtain ⟨ct, cr, b5⟩ := h'
  have cb := cr.1.bb
  show wp (KO_X11_path_0 N g H T g x y u v s) (KF_X11_path_0 N g H T g x y u v s) _
  unfold KO_X11_path_0 KF_X11_path_0 KO_X11_path_32 KF_X11_path_32
  have no : (¬ ∃ n h k i b, n < H ∧ 1 ≤ h ∧ h ≤ 40 ∧ i < 2147483648 ∧ wY w n 7 h = some b ∧ k < (partsB b).length ∧ x = nI n ∧ y = nI h ∧ u = nI k ∧ v = nI i) → r = -1 := fun z => by
    rcases hv with ⟨n, h, k, i, b, q1, q2, q3, q4, q5, q6, q7, q8, q9, q10, _⟩ | ⟨_, q⟩
    · exact absurd ⟨n, h, k, i, b, q1, q2, q3, q4, q5, q6, q7, q8, q9, q10⟩ z
    · exact q
  have out : (¬ ∃ n h k i b, n < H ∧ 1 ≤ h ∧ h ≤ 40 ∧ i < 2147483648 ∧ wY w n 7 h = some b ∧ k < (partsB b).length ∧ x = nI n ∧ y = nI h ∧ u = nI k ∧ v = nI i) → (((-1 : Int64), s) : Int64 × cS).1 = r ∧ clW F g H T (((-1 : Int64), s) : Int64 × cS).2 w := fun z => ⟨(no z).symm, h⟩
  by_cases c : ∃ n, n < H ∧ x = nI n
  rotate_left
  · obtain ⟨o1, o2⟩ := honest_n (N := N) cr c
    rw [o2]
    exact wp_and o1 (wp_pos rfl (wp_fin trivial (out (fun ⟨n, _, _, _, _, q1, _, _, _, _, _, q2, _⟩ => c ⟨n, q1, q2⟩))))
  obtain ⟨n, hn, rfl⟩ := c
  obtain ⟨o1, o2⟩ := honest_y (N := N) cr hn
  rw [o2, zsome]
  refine wp_and o1 (wp_neg someN (wp_ite (fun c => wp_fin trivial (out ?_)) (fun c => ?_)))
  · rintro ⟨_, h, _, _, _, _, q1, q2, _, _, _, _, q3, _⟩
    rw [q3, n_lt' (by omega) (by omega)] at c
    omega
  have cy : ¬ y < 0 := fun z => c (by
    rw [Int32.lt_iff_toInt_lt] at z ⊢
    have : (0 : Int32).toInt = 0 := rfl
    have : (nI 1).toInt = 1 := rfl
    omega)
  obtain ⟨hh, h1, rfl⟩ := i_nat cy
  rw [n_lt' h1 (by omega)] at c
  refine wp_ite (fun c2 => wp_fin trivial (out ?_)) (fun c2 => ?_) <;> rw [n_lt' (by omega) h1] at c2
  · rintro ⟨_, h, _, _, _, _, q1, q2, _, _, _, _, q3, _⟩
    have := n_inj h1 (by omega) q3
    omega
  refine wp_ite (fun c3 => wp_fin trivial (out ?_)) (fun c3 => ?_)
  · rintro ⟨n', h', k, _, b, p1, _, _, _, p5, p6, _, _, p9, _⟩
    have bw : blkWf T b := iv.1.2 n' h' b p1 p5
    have b1 := bw.2.2.2.1
    have b2 := bw.2.2.2.2.1
    rw [partsB_len] at p6
    rw [p9] at c3
    exact n_lt0 (by omega) c3
  obtain ⟨k, k1, rfl⟩ := i_nat c3
  refine wp_ite (fun c4 => ?_) (fun c4 => wp_fin trivial (out ?_))
  rotate_left
  · rintro ⟨_, _, _, i, _, _, _, _, q1, _, _, _, _, _, q2⟩
    exact c4 (by rw [q2, show (0 : Int32) = nI 0 from rfl, n_le' (by omega) q1]; omega)
  obtain ⟨i, hi, rfl⟩ := i_nat (i_nn c4)
  refine wp_call (fetch_C (N := N) cr b5 hn (by omega) (by omega)) (fun q => ?_)
  generalize k_X4_fetch N g H T s (nd g n + 1) (nI hh) (some (g + 28)) (nI 0) = Z at q ⊢
  unfold KO_X11_path_53 KF_X11_path_53
  rcases q with ⟨q1, q2⟩ | ⟨Y, q1, q2, q3, q4, q5, q6⟩
  · rw [q2]
    refine wp_neg (show ¬ (0 : Int32) ≤ -1 by decide) (wp_fin trivial ⟨(no ?_).symm, h⟩)
    rintro ⟨n', h', k', i', b, p1, p2, p3, p4, p5, p6, p7, p8, p9, p10⟩
    have := n_inj (by omega) (by omega) p7
    subst this
    have := n_inj h1 (by omega) p8
    subst this
    rw [q1] at p5
    cases p5
  have l := q2.2.1
  have bw : blkWf T Y := iv.1.2 n hh Y hn q1
  rw [q3]
  refine wp_pos (by rw [show (0 : Int32) = nI 0 from rfl, n_le' (by omega) (by omega)]; omega) ?_
  have k28 : cK Z.2 (g + 28) = 20 := (q5.2.1.rk (c := 8) (k := 10) isO8 rfl (by omega)) _ rfl
  have L28 : cL Z.2 (g + 28) = 1024 := q5.2.1.rl (c := 8) (k := 10) isO8 rfl (by omega) (by omega)
  obtain ⟨R, hat⟩ := atR_0 q5.2.1 k28 (by omega) q4 bw
  have hL := hL_of q5.2.1
  have pl := plant_ok (N := N) (g := g) (H := H) (T := T) (h := g + 3) (by omega) hL (by unfold isH; omega) hat
  have st1 := (kpc_X2_plant q5.2.1 oH (tK_some k28) pl.1).1
  refine wp_call pl (fun q => ?_)
  obtain ⟨p1, p2, p3⟩ := q
  generalize k_X2_plant N g H T Z.2 (g + 3) (some (g + 28)) (nI 0) = S1 at p1 p2 p3 st1 ⊢
  unfold KO_X11_path_78 KF_X11_path_78
  have pl66 : (partsB Y).length ≤ 66 := by
    have b1 := bw.2.2.2.1
    have b2 := bw.2.2.2.2.1
    rw [partsB_len]
    omega
  rw [p2]
  by_cases c5 : k < (partsB Y).length
  rotate_left
  · refine wp_neg (by rw [n_lt' k1 (by omega)]; exact c5) (wp_fin trivial ⟨(no ?_).symm, clW.sc q5 q6 p1 (fun a z => by unfold scP; unfold isH at z; omega) st1⟩)
    rintro ⟨n', h', k', i', b, p1, p2, p3, p4, p5, p6, p7, p8, p9, p10⟩
    have := n_inj (by omega) (by omega) p7
    subst this
    have := n_inj h1 (by omega) p8
    subst this
    rw [q1] at p5
    cases p5
    have := n_inj k1 (by omega) p9
    omega
  have tL := tape_L st1
  have cm := climb_c (N := N) (g := g) (H := H) (T := T) (h := g + 3) (d := g + 2) (m := (partsB Y).length) (k := k) (e := 0) (by omega) (by unfold isH; omega) (hL_of st1) pl66 p2 c5 (by omega) tL.2.2.1
  have st2 := (kpc_X2_climb st1 oH (tK_some tL.2.2.2) cm.1).1
  have epl : pthL (cLf S1 (g + 3)) (partsB Y).length k = pthP (partsB Y) k := pthL_congr _ _ _ _ c5 (fun i j hi hj => p3 i j hi hj)
  rw [epl] at cm
  refine wp_pos (by rw [n_lt' (by omega) (by omega)]; exact c5) (wp_call cm (fun q => ?_))
  obtain ⟨z1, z2, z3, z4, z5⟩ := q
  generalize k_X2_climb N g H T S1 (g + 3) (nI k) (some (g + 2)) (nI 0) = Q at z1 z2 z3 z4 st2 ⊢
  unfold KO_X11_path_116 KF_X11_path_116
  have pB : isB (pthP (partsB Y) k) := pthL_B _ _ _
  have tL2 := tape_L st2
  have bB : cB Q.2 (g + 2) (pthP (partsB Y) k) := by
    refine ⟨by omega, by omega, fun j hj => ?_, pB⟩
    have := z3 j hj
    rw [Nat.zero_add] at this
    exact st2.sb tL2.2.2.2 (pB _) this
  obtain ⟨e1, e2⟩ := eight_ok (N := N) (g := g) (H := H) (T := T) (i := i) bB (Nat.le_refl _) hi (by omega)
  rw [z1]
  refine wp_and e1 (wp_fin trivial ⟨?_, clW.sc q5 q6 ((p1.mono (fun a z => Or.inl z)).trans z2) (fun a z => by unfold scP; unfold isH at z; omega) st2⟩)
  show k_X11_eight N g H T Q.2 (some (g + 2)) (nI (pthP (partsB Y) k).length) (nI i) = r
  rw [e2, e8_ei (Nat.le_refl _)]
  rcases hv with ⟨n', h', k', i', b, p1, p2, p3, p4, p5, p6, p7, p8, p9, p10, p11⟩ | ⟨q, _⟩
  · have := n_inj (by omega) (by omega) p7
    subst this
    have := n_inj h1 (by omega) p8
    subst this
    rw [q1] at p5
    cases p5
    have := n_inj k1 (by omega) p9
    subst this
    have := n_inj hi p4 p10
    subst this
    exact p11.symm
  · exact absurd ⟨n, hh, k, i, Y, hn, by omega, by omega, hi, q1, c5, rfl, rfl, rfl, rfl⟩ q
end
end
