section
/-! CALLS OF THE CLASS: what is asked of a node -/
section
variable {F N g H T n k : Nat} {s s0 s1 S : cS} {ct : Nat → List Nat} {hd : List Nat} {w w' V W : Wd} {pe : Nat → Int} {a b : Nat} {G : Gh} {m : List Nat} {x y v u : Int32}
/-- timers that run -/
theorem timersSet_c (cr : CR F g H T s ct hd w pe) (hn : n < H) (tm : tmO (wT w) w n) : p_X6_timersSet N g H T s (nd g n) ∧ k_X6_timersSet N g H T s (nd g n) = nI (tmS w n) := by
  have qt := (cr.node hn).2.1
  have key : ∀ t, t < 3 → (cA s (nd g n + 12) t ≤ 0 ↔ iI (wN w n (9 + t)) = -1) := fun t ht => by
    rw [qt t ht]
    unfold tmC
    rcases tm (9 + t) (by omega) with q | ⟨_, q1, q2⟩
    · rw [q, if_pos rfl]
      exact ⟨fun _ => rfl, fun _ => by decide⟩
    · rw [if_neg (by omega), show (0 : Int32) = iI 0 from rfl, iI_le (by omega) (by omega) (by omega) (by omega), ← iI_m1, iI_eq (by omega) (by omega) (by omega) (by omega)]
      omega
  have k0 := key 0 (by decide)
  have k1 := key 1 (by decide)
  have k2 := key 2 (by decide)
  show wp (KO_X6_timersSet_0 N g H T (some (nd g n)) s) (KF_X6_timersSet_0 N g H T (some (nd g n)) s) (fun z => z = nI (tmS w n))
  unfold KO_X6_timersSet_0 KF_X6_timersSet_0 KO_X6_timersSet_14 KF_X6_timersSet_14 KO_X6_timersSet_28 KF_X6_timersSet_28 KO_X6_timersSet_43 KF_X6_timersSet_43 tmS
  rw [zsome, n_clamp (by omega), n_clamp (by omega), n_clamp (by omega)]
  have i0 : vp_in (nI 0) 3 := ((n_in (by omega)).2 (by omega))
  have i1 : vp_in (nI 1) 3 := ((n_in (by omega)).2 (by omega))
  have i2 : vp_in (nI 2) 3 := ((n_in (by omega)).2 (by omega))
  by_cases c0 : iI (wN w n 9) = -1
  · rw [if_pos c0]
    by_cases c1 : iI (wN w n 10) = -1
    · rw [if_pos c1]
      by_cases c2 : iI (wN w n 11) = -1
      · rw [if_pos c2]
        exact wp_and someN (wp_and i0 (wp_pos (k0.2 c0) (wp_and someN (wp_and i1 (wp_pos (k1.2 c1) (wp_and someN (wp_and i2 (wp_pos (k2.2 c2) (wp_fin trivial (by rw [n_add, n_add]))))))))))
      · rw [if_neg c2]
        exact wp_and someN (wp_and i0 (wp_pos (k0.2 c0) (wp_and someN (wp_and i1 (wp_pos (k1.2 c1) (wp_and someN (wp_and i2 (wp_neg (fun z => c2 (k2.1 z)) (wp_fin trivial (by rw [n_add, n_add]))))))))))
    · rw [if_neg c1]
      by_cases c2 : iI (wN w n 11) = -1
      · rw [if_pos c2]
        exact wp_and someN (wp_and i0 (wp_pos (k0.2 c0) (wp_and someN (wp_and i1 (wp_neg (fun z => c1 (k1.1 z)) (wp_and someN (wp_and i2 (wp_pos (k2.2 c2) (wp_fin trivial (by rw [n_add, n_add]))))))))))
      · rw [if_neg c2]
        exact wp_and someN (wp_and i0 (wp_pos (k0.2 c0) (wp_and someN (wp_and i1 (wp_neg (fun z => c1 (k1.1 z)) (wp_and someN (wp_and i2 (wp_neg (fun z => c2 (k2.1 z)) (wp_fin trivial (by rw [n_add, n_add]))))))))))
  · rw [if_neg c0]
    by_cases c1 : iI (wN w n 10) = -1
    · rw [if_pos c1]
      by_cases c2 : iI (wN w n 11) = -1
      · rw [if_pos c2]
        exact wp_and someN (wp_and i0 (wp_neg (fun z => c0 (k0.1 z)) (wp_and someN (wp_and i1 (wp_pos (k1.2 c1) (wp_and someN (wp_and i2 (wp_pos (k2.2 c2) (wp_fin trivial (by rw [n_add, n_add]))))))))))
      · rw [if_neg c2]
        exact wp_and someN (wp_and i0 (wp_neg (fun z => c0 (k0.1 z)) (wp_and someN (wp_and i1 (wp_pos (k1.2 c1) (wp_and someN (wp_and i2 (wp_neg (fun z => c2 (k2.1 z)) (wp_fin trivial (by rw [n_add, n_add]))))))))))
    · rw [if_neg c1]
      by_cases c2 : iI (wN w n 11) = -1
      · rw [if_pos c2]
        exact wp_and someN (wp_and i0 (wp_neg (fun z => c0 (k0.1 z)) (wp_and someN (wp_and i1 (wp_neg (fun z => c1 (k1.1 z)) (wp_and someN (wp_and i2 (wp_pos (k2.2 c2) (wp_fin trivial (by rw [n_add, n_add]))))))))))
      · rw [if_neg c2]
        exact wp_and someN (wp_and i0 (wp_neg (fun z => c0 (k0.1 z)) (wp_and someN (wp_and i1 (wp_neg (fun z => c1 (k1.1 z)) (wp_and someN (wp_and i2 (wp_neg (fun z => c2 (k2.1 z)) (wp_fin trivial (by rw [n_add, n_add]))))))))))
theorem state_C (h : clW F g H T s w) (iv : IV F H T w) (hv : stA w H T x y v) : wp (p_X11_state N g H T s g x y) (k_X11_state N g H T s g x y) (fun z => z = v) := by
  obtain ⟨ct, cr, b5⟩ := h
  show wp (KO_X11_state_0 N g H T g x y s) (KF_X11_state_0 N g H T g x y s) _
  unfold KO_X11_state_0 KF_X11_state_0 KO_X11_state_113 KF_X11_state_113
  rcases hv with ⟨n, hn, rfl, e⟩ | ⟨no, e⟩
  · obtain ⟨o1, o2⟩ := honest_y (N := N) cr hn
    have t := timersSet_c (N := N) cr hn (iv.1.1.2.2 n hn)
    obtain ⟨⟨n1, n8, n9, n10, n11, n12, n13, n16, n17, n18⟩, _, ⟨l5, l6, l7, l8, l9⟩, _, _, _, _, _, ⟨_, _, s13⟩, ⟨p12, _⟩, _⟩ := cr.node hn
    rw [o2, zsome, n8, n9, n10, n11, n12, n13, n17, l7, l8, s13, p12, t.2]
    unfold stV at e
    refine wp_and o1 (wp_neg someN ?_)
    refine wp_ite (fun c => wp_fin trivial ?_) (fun c => ?_)
    · rw [e, if_pos c]
    rw [if_neg c] at e
    clear c
    refine wp_ite (fun c => wp_fin trivial ?_) (fun c => ?_)
    · rw [e, if_pos c]
    rw [if_neg c] at e
    clear c
    refine wp_ite (fun c => wp_fin trivial ?_) (fun c => ?_)
    · rw [e, if_pos c]
    rw [if_neg c] at e
    clear c
    refine wp_ite (fun c => wp_fin trivial ?_) (fun c => ?_)
    · rw [e, if_pos c]
    rw [if_neg c] at e
    clear c
    refine wp_ite (fun c => wp_fin trivial ?_) (fun c => ?_)
    · rw [e, if_pos c]
    rw [if_neg c] at e
    clear c
    refine wp_ite (fun c => ?_) (fun c => ?_)
    · rw [if_pos c] at e
      refine wp_ite (fun c => wp_fin trivial ?_) (fun c => wp_fin trivial ?_)
      · rw [e, if_pos c]
      · rw [e, if_neg c]
    rw [if_neg c] at e
    clear c
    refine wp_ite (fun c => wp_fin trivial ?_) (fun c => ?_)
    · rw [e, if_pos c]
    rw [if_neg c] at e
    clear c
    refine wp_ite (fun c => wp_and t.1 (wp_fin trivial ?_)) (fun c => ?_)
    · rw [e, if_pos c]
    rw [if_neg c] at e
    clear c
    refine wp_ite (fun c => wp_fin trivial ?_) (fun c => ?_)
    · rw [e, if_pos c]
    rw [if_neg c] at e
    clear c
    refine wp_ite (fun c => wp_fin trivial ?_) (fun c => ?_)
    · rw [e, if_pos c]
    rw [if_neg c] at e
    clear c
    refine wp_ite (fun c => wp_fin trivial ?_) (fun c => ?_)
    · rw [e, if_pos c]
    rw [if_neg c] at e
    clear c
    refine wp_ite (fun c => wp_fin trivial ?_) (fun c => wp_fin trivial ?_)
    · rw [e, if_pos c]
      rfl
    · rw [e, if_neg c]
  · obtain ⟨o1, o2⟩ := honest_n (N := N) cr no
    rw [o2]
    exact wp_and o1 (wp_pos rfl (wp_fin trivial e.symm))
theorem balance_C (h : clW F g H T s w) (hv : baA w H x y v) : wp (p_X11_balance N g H T s g x y) (k_X11_balance N g H T s g x y) (fun z => z = v) := by
  obtain ⟨ct, cr, b5⟩ := h
  show wp (KO_X11_balance_0 N g H T g x y s) (KF_X11_balance_0 N g H T g x y s) _
  unfold KO_X11_balance_0 KF_X11_balance_0 KO_X11_balance_20 KF_X11_balance_20 KO_X11_balance_33 KF_X11_balance_33
  rcases hv with ⟨n, a, hn, ha, rfl, rfl, e⟩ | ⟨no, e⟩
  · obtain ⟨o1, o2⟩ := honest_y (N := N) cr hn
    have q := ((cr.node hn).2.2.2.2.2.1.1.1 a ha).1
    have q : cA s (nd g n + 6 + 1) a = iI (wN w n (32 + a)) := by
      rw [q]
      unfold vB
      rw [if_pos (by omega)]
    rw [o2, zsome, n_clamp (by omega), q]
    exact wp_and o1 (wp_neg someN (wp_neg (n_lt0 (by omega)) (wp_pos (by rw [n_lt' (by omega) (by omega)]; exact ha) (wp_and ((n_in (by omega)).2 (by omega)) (wp_fin trivial e.symm)))))
  · by_cases c : ∃ n, n < H ∧ x = nI n
    · obtain ⟨n, hn, rfl⟩ := c
      obtain ⟨o1, o2⟩ := honest_y (N := N) cr hn
      rw [o2]
      refine wp_and o1 (wp_neg someN (wp_ite (fun _ => wp_fin trivial e.symm) (fun c => ?_)))
      obtain ⟨a, a1, rfl⟩ := i_nat c
      refine wp_neg (fun z => no ⟨n, a, hn, ?_, rfl, rfl⟩) (wp_fin trivial e.symm)
      rw [n_lt' a1 (by omega)] at z
      exact z
    · obtain ⟨o1, o2⟩ := honest_n (N := N) cr c
      rw [o2]
      exact wp_and o1 (wp_pos rfl (wp_fin trivial e.symm))
theorem paid_C (h : clW F g H T s w) (hv : pdA w H T x y v) : wp (p_X11_paid N g H T s g x y) (k_X11_paid N g H T s g x y) (fun z => z = v) := by
  obtain ⟨ct, cr, b5⟩ := h
  have cb := cr.1.bb
  have eT : cI s 1 (g + 8) = nI T := cr.2.2.2.2.2.1.2.1
  show wp (KO_X11_paid_0 N g H T g x y s) (KF_X11_paid_0 N g H T g x y s) _
  unfold KO_X11_paid_0 KF_X11_paid_0 KO_X11_paid_25 KF_X11_paid_25
  rw [eT]
  rcases hv with ⟨n, a, hn, ha, rfl, rfl, e⟩ | ⟨no, e⟩
  · obtain ⟨o1, o2⟩ := honest_y (N := N) cr hn
    obtain ⟨p1, p2⟩ := hasPaid_ok (N := N) (g := g) (H := H) (T := T) (q := a) (cr.node hn).2.2.2.2.2.1.1 (by omega)
    have e3 : vB (wN w n) (32 + a) = wN w n (64 + a) := by
      unfold vB
      rw [if_pos (by omega), show 32 + (32 + a) = 64 + a by omega]
    rw [e3] at p2
    have eS : cI s 1 (nd g n + 14) = nI T := (cr.node hn).2.2.2.2.2.2.2.2.2.2.2.2.1
    have q9 := (cr.node hn).2.2.2.2.2.2.2.2.1.2.1 a ha
    have pf : p_X8_proofOf N g H T s (nd g n + 14) (nI a) ∧ k_X8_proofOf N g H T s (nd g n + 14) (nI a) = cP s (nd g n + 23) a := by
      show wp (KO_X8_proofOf_0 N g H T (nd g n + 14) (nI a) s) (KF_X8_proofOf_0 N g H T (nd g n + 14) (nI a) s) (fun z => z = cP s (nd g n + 23) a)
      unfold KO_X8_proofOf_0 KF_X8_proofOf_0 KO_X8_proofOf_22 KF_X8_proofOf_22
      rw [eS, n_clamp (by omega)]
      exact wp_neg (n_lt0 (by omega)) (wp_neg (by rw [n_le' (by omega) (by omega)]; omega) (wp_and ((n_in (by omega)).2 (by omega)) (wp_fin trivial rfl)))
    rw [o2, zsome, p2]
    have fin : ∀ i : Nat, i = (if wN w n (64 + a) = 0 then 0 else 1) → wp (KO_X11_paid_43 N g H T (nI a) (some (nd g n)) (nI i) s) (KF_X11_paid_43 N g H T (nI a) (some (nd g n)) (nI i) s) (fun z => z = v) := fun i hi => by
      unfold KO_X11_paid_43 KF_X11_paid_43 KO_X11_paid_59 KF_X11_paid_59
      rw [zsome, pf.2, e, ← hi]
      refine wp_and someN (wp_and pf.1 ?_)
      cases ep : cP s (nd g n + 23) a with
      | none =>
        rw [ep] at q9
        have q9 : wY w n 2 a = none := q9.symm
        rw [if_pos q9]
        exact wp_pos rfl (wp_fin trivial (n_add _ _))
      | some z =>
        rw [ep] at q9
        have q9 : wY w n 2 a = some (ct z) := q9.symm
        rw [if_neg (show ¬ wY w n 2 a = none by rw [q9]; intro q; cases q)]
        exact wp_neg someN (wp_fin trivial (n_add _ _))
    refine wp_and o1 (wp_neg someN (wp_neg (n_lt0 (by omega)) (wp_pos (by rw [n_lt' (by omega) (by omega)]; exact ha) (wp_and p1 ?_))))
    by_cases c : wN w n (64 + a) = 0
    · rw [if_pos c]
      exact wp_pos rfl (fin 0 (if_pos c).symm)
    · rw [if_neg c]
      exact wp_neg (by decide) (fin 1 (if_neg c).symm)
  · by_cases c : ∃ n, n < H ∧ x = nI n
    · obtain ⟨n, hn, rfl⟩ := c
      obtain ⟨o1, o2⟩ := honest_y (N := N) cr hn
      rw [o2]
      refine wp_and o1 (wp_neg someN (wp_ite (fun _ => wp_fin trivial e.symm) (fun c => ?_)))
      obtain ⟨a, a1, rfl⟩ := i_nat c
      refine wp_neg (fun z => no ⟨n, a, hn, ?_, rfl, rfl⟩) (wp_fin trivial e.symm)
      rw [n_lt' a1 (by omega)] at z
      exact z
    · obtain ⟨o1, o2⟩ := honest_n (N := N) cr c
      rw [o2]
      exact wp_and o1 (wp_pos rfl (wp_fin trivial e.symm))
/-- a sector -/
theorem sector_C {v : Int64} (hN : 100 ≤ N) (h : clW F g H T s w) (hv : seA w H x y u v) : wp (p_X11_sector N g H T s g x y u) (k_X11_sector N g H T s g x y u) (fun z => z = v) := by
  obtain ⟨ct, cr, b5⟩ := h
  show wp (KO_X11_sector_0 N g H T g x y u s) (KF_X11_sector_0 N g H T g x y u s) _
  unfold KO_X11_sector_0 KF_X11_sector_0 KO_X11_sector_28 KF_X11_sector_28
  rcases hv with ⟨n, c, i, hn, hc, hi, rfl, rfl, rfl, h1, e⟩ | ⟨no, e⟩
  · obtain ⟨o1, o2⟩ := honest_y (N := N) cr hn
    have qX := (cr.node hn).2.2.2.1
    obtain ⟨r1, r2⟩ := canRead_c (N := N) (T := T) qX hc
    rcases r2 with ⟨r3, r4, r, r5, r6⟩ | ⟨r3, r4⟩
    · have sb5 : cB s r (seB w n c) := by
        obtain ⟨q1, q2, q3, q4, q5, q6⟩ := r6
        refine ⟨by rw [q4]; unfold seB; rw [mkB_len]; exact Nat.le_refl _, by omega, fun j hj => ?_, fun j => ?_⟩
        · unfold seB at hj ⊢
          rw [mkB_len] at hj
          rw [(q6 j hj).2, mkB_in hj]
        · unfold seB
          by_cases z : j < 512
          · rw [mkB_in z]
            exact (q6 j z).1
          · rw [bg_out (by rw [mkB_len]; omega)]
            decide
      have ln : (seB w n c).length = 512 := mkB_len _ _
      obtain ⟨e1, e2⟩ := eight_ok (N := N) (g := g) (H := H) (T := T) (i := i) (e := 512) sb5 (by omega) hi (by omega)
      have e0 : nd g n + 1 + 1 = nd g n + 2 := rfl
      rw [o2, zsome, r4, n_clamp (by omega), e0, r5, e2, e, e8_ei (by omega)]
      exact wp_and o1 (wp_neg someN (wp_neg (n_lt0 hi) (wp_and r1 (wp_neg (by decide) (wp_and ((n_in (by omega)).2 (by omega)) (wp_and e1 (wp_fin trivial rfl)))))))
    · rw [r3] at h1
      exact absurd rfl h1
  · by_cases c : ∃ n, n < H ∧ x = nI n
    · obtain ⟨n, hn, rfl⟩ := c
      obtain ⟨o1, o2⟩ := honest_y (N := N) cr hn
      have qX := (cr.node hn).2.2.2.1
      rw [o2, zsome]
      refine wp_and o1 (wp_neg someN (wp_ite (fun _ => wp_fin trivial e.symm) (fun c => ?_)))
      obtain ⟨i, i1, rfl⟩ := i_nat c
      have cn : p_X4_canRead N g H T s (nd g n + 1) y ∧ k_X4_canRead N g H T s (nd g n + 1) y = nI 0 := by
        by_cases d : ∃ c, c < 284 ∧ y = nI c
        · obtain ⟨c, hc, rfl⟩ := d
          obtain ⟨r1, r2⟩ := canRead_c (N := N) (T := T) qX hc
          rcases r2 with ⟨r3, r4, r, r5, r6⟩ | ⟨r3, r4⟩
          · exact absurd ⟨n, c, i, hn, hc, i1, rfl, rfl, rfl, by rw [r3]; decide⟩ no
          · exact ⟨r1, r4⟩
        · show wp (KO_X4_canRead_0 N g H T (nd g n + 1) y s) (KF_X4_canRead_0 N g H T (nd g n + 1) y s) (fun z => z = nI 0)
          unfold KO_X4_canRead_0 KF_X4_canRead_0 KO_X4_canRead_33 KF_X4_canRead_33 KO_X4_canRead_34 KF_X4_canRead_34
          refine wp_ite (fun _ => wp_fin bo0 rfl) (fun c1 => ?_)
          obtain ⟨c, c2, rfl⟩ := i_nat c1
          refine wp_pos ?_ (wp_fin bo0 rfl)
          rw [n_le' (by omega) c2]
          by_cases q : c < 284
          · exact absurd ⟨c, q, rfl⟩ d
          · omega
      rw [cn.2]
      exact wp_and cn.1 (wp_pos rfl (wp_fin trivial e.symm))
    · obtain ⟨o1, o2⟩ := honest_n (N := N) cr c
      rw [o2]
      exact wp_and o1 (wp_pos rfl (wp_fin trivial e.symm))
/-- a block of the chain comes to the desk -/
theorem fetch_C {h : Nat} (cr : CR F g H T s ct hd w pe) (b5 : bF g H s) (hn : n < H) (h1 : 1 ≤ h) (h2 : h ≤ 40) : wp (p_X4_fetch N g H T s (nd g n + 1) (nI h) (some (g + 28)) (nI 0)) (k_X4_fetch N g H T s (nd g n + 1) (nI h) (some (g + 28)) (nI 0)) (fun z => (wY w n 7 h = none ∧ z = (-1, s)) ∨ ∃ y, wY w n 7 h = some y ∧ bOK y ∧ z.1 = nI y.length ∧ cB z.2 (g + 28) y ∧ CR F g H T z.2 ct hd w pe ∧ bF g H z.2) := by
  have fc := fetch_c (N := N) cr hn h1 h2
  have k28 : cK s (g + 28) = 20 := (cr.2.1.rk (c := 8) (k := 10) isO8 rfl (by omega)) _ rfl
  have L28 : cL s (g + 28) = 1024 := cr.2.1.rl (c := 8) (k := 10) isO8 rfl (by omega) (by omega)
  have st := (kpc_X4_fetch cr.2.1 (o52 (isO5 hn)) (tK_some k28) fc.1).1
  refine wp_mono fc (fun q => ?_)
  generalize k_X4_fetch N g H T s (nd g n + 1) (nI h) (some (g + 28)) (nI 0) = Z at q st ⊢
  rcases q with q | ⟨y, f, q1, q2, rfl, q4⟩
  · exact Or.inl q
  · have c1 : CR F g H T (csArow s (g + 28) f) ct hd w pe := cr.sc (cfr_A s (g + 28) f) (fun a ha => by unfold scP; omega) st
    have l := q2.2.1
    refine Or.inr ⟨y, q1, q2, rfl, ⟨?_, ?_, fun i hi => ?_, q2.2.2⟩, c1, b5⟩
    · show y.length ≤ cL s (g + 28)
      omega
    · show cL s (g + 28) ≤ 3000
      omega
    · show cA (csArow s (g + 28) f) (g + 28) i = _
      rw [cA_same]
      exact q4 i hi
theorem blk_96 {o : Option Nat} {i : Nat} {Y : Option (List Nat)} (hN : 100 ≤ N) (cr : CR F g H T s ct hd w pe) (hi : i < 2147483648) (hY : o.map (fun a => (ct a).drop 6) = Y) (hu : ∀ a, o = some a → 1 ≤ us g H T s hd a) : wp (KO_X11_block_96 N g H T (nI i) o s) (KF_X11_block_96 N g H T (nI i) o s) (fun z => z.2 = s ∧ ((Y = none ∧ z.1 = -1) ∨ ∃ b, Y = some b ∧ z.1 = eiB b i)) := by
  unfold KO_X11_block_96 KF_X11_block_96 KO_X11_block_137 KF_X11_block_137
  cases o with
  | none => exact wp_pos rfl (wp_fin trivial ⟨rfl, Or.inl ⟨hY.symm, rfl⟩⟩)
  | some a =>
    have ms := cr.ms (hu a rfl)
    have ml := ms.2.2.2.1
    rw [zsome, ms.2.1, n_add]
    refine wp_neg someN ?_
    by_cases c : i ≤ (ct a).length
    · obtain ⟨e1, e2⟩ := eight_ok (N := N) (g := g) (H := H) (T := T) (i := i + 6) ms.2.2.1 (Nat.le_refl _) (by omega) (by omega)
      refine wp_pos (by rw [n_le' (by omega) (by omega)]; exact c) (wp_and e1 (wp_fin trivial ⟨rfl, Or.inr ⟨_, hY.symm, ?_⟩⟩))
      show k_X11_eight N g H T s (some (a + 2)) (nI (ct a).length) (nI (i + 6)) = _
      rw [e2, e8_ei (Nat.le_refl _), ei_drop]
    · refine wp_neg (by rw [n_le' hi (by omega)]; exact c) (wp_fin trivial ⟨rfl, Or.inr ⟨_, hY.symm, ?_⟩⟩)
      show (0 : Int64) = _
      rw [ei_0 (by rw [List.length_drop]; omega)]
theorem block_C {v : Int64} (hN : 100 ≤ N) (h : clW F g H T s w) (hv : blA w H x y u v) : wp (p_X11_block N g H T s g x y u) (k_X11_block N g H T s g x y u) (fun z => z.1 = v ∧ clW F g H T z.2 w) := by
  have h' := h
  obtain ⟨ct, cr, b5⟩ := h'
  have cb := cr.1.bb
  show wp (KO_X11_block_0 N g H T g x y u s) (KF_X11_block_0 N g H T g x y u s) _
  unfold KO_X11_block_0 KF_X11_block_0 KO_X11_block_27 KF_X11_block_27
  have no : (¬ ∃ n i b, n < H ∧ i < 2147483648 ∧ x = nI n ∧ u = nI i ∧ ¬ y < -1 ∧ y ≤ nI 40 ∧ bkO w n y = some b) → (((-1 : Int64), s) : Int64 × cS).1 = v ∧ clW F g H T (((-1 : Int64), s) : Int64 × cS).2 w := fun z => by
    rcases hv with ⟨n, i, b, q1, q2, q3, q4, q5, q6, q7, _⟩ | ⟨_, q⟩
    · exact absurd ⟨n, i, b, q1, q2, q3, q4, q5, q6, q7⟩ z
    · exact ⟨q.symm, h⟩
  by_cases c : ∃ n, n < H ∧ x = nI n
  rotate_left
  · obtain ⟨o1, o2⟩ := honest_n (N := N) cr c
    rw [o2]
    exact wp_and o1 (wp_pos rfl (wp_fin trivial (no (fun ⟨n, _, _, q1, _, q2, _⟩ => c ⟨n, q1, q2⟩))))
  obtain ⟨n, hn, rfl⟩ := c
  obtain ⟨o1, o2⟩ := honest_y (N := N) cr hn
  rw [o2, zsome]
  refine wp_and o1 (wp_neg someN (wp_ite (fun c => wp_fin trivial (no ?_)) (fun c => ?_)))
  · rintro ⟨_, i, _, _, q1, _, q2, _⟩
    rw [q2] at c
    exact n_lt0 q1 c
  obtain ⟨i, hi, rfl⟩ := i_nat c
  refine wp_ite (fun c2 => wp_fin trivial (no (fun ⟨_, _, _, _, _, _, _, q, _⟩ => q c2))) (fun c2 => ?_)
  refine wp_ite (fun c3 => ?_) (fun c3 => wp_fin trivial (no (fun ⟨_, _, _, _, _, _, _, _, q, _⟩ => c3 q)))
  have val : ∀ Y, bkO w n y = Y → (Y = none → v = -1) ∧ ∀ b, Y = some b → v = eiB b i := fun Y eY => by
    rcases hv with ⟨n', i', b', q1, q2, q3, q4, q5, q6, q7, q8⟩ | ⟨q, q8⟩
    · have := n_inj (by omega) (by omega) q3
      subst this
      have := n_inj hi q2 q4
      subst this
      rw [q7] at eY
      rw [← eY]
      exact ⟨(fun z => by cases z), fun b z => by cases z; exact q8⟩
    · exact ⟨fun _ => q8, fun b z => absurd ⟨n, i, b, hn, hi, rfl, rfl, c2, c3, eY.trans z⟩ q⟩
  have fin : ∀ o Y, bkO w n y = Y → o.map (fun a => (ct a).drop 6) = Y → (∀ a, o = some a → 1 ≤ us g H T s [] a) → wp (KO_X11_block_96 N g H T (nI i) o s) (KF_X11_block_96 N g H T (nI i) o s) (fun z => z.1 = v ∧ clW F g H T z.2 w) := fun o Y e1 e2 e3 => by
    refine wp_mono (blk_96 hN cr hi e2 e3) (fun q => ?_)
    obtain ⟨q1, q2⟩ := q
    rw [q1]
    refine ⟨?_, h⟩
    rcases q2 with ⟨q3, q4⟩ | ⟨b, q3, q4⟩
    · rw [q4, (val Y e1).1 q3]
    · rw [q4, (val Y e1).2 b q3]
  obtain ⟨k1, k2, _⟩ := (cr.node hn).2.2.2.2.2.2.2.2.2.2.1
  have uf : ∀ k a, k = 14 ∨ k = 15 → cR s k (nd g n) = some a → 1 ≤ us g H T s [] a := fun k a hk e => by
    have := cnA_hf (g := g) (H := H) (T := T) hn hk e
    unfold us
    omega
  refine wp_ite (fun c4 => ?_) (fun c4 => ?_)
  · refine wp_ite (fun c5 => ?_) (fun c5 => ?_)
    · exact fin _ _ (if_pos c5) k1 (fun a e => uf 14 a (Or.inl rfl) e)
    · have em : y = -1 := by
        refine Int32.toInt_inj.1 ?_
        rw [Int32.lt_iff_toInt_lt] at c2
        rw [Int32.le_iff_toInt_le] at c4
        have e0 : (0 : Int32).toInt = 0 := rfl
        have e1 : (-1 : Int32).toInt = -1 := rfl
        have e2 : y.toInt ≠ 0 := fun z => c5 (Int32.toInt_inj.1 (by rw [z]; rfl))
        omega
      exact fin _ _ ((if_neg c5).trans (if_pos em)) k2 (fun a e => uf 15 a (Or.inr rfl) e)
  · have cy : ¬ y < 0 := fun z => c4 (Int32.le_of_lt z)
    obtain ⟨hh, h1, rfl⟩ := i_nat cy
    rw [show (0 : Int32) = nI 0 from rfl, n_le' h1 (by omega)] at c4
    rw [n_le' h1 (by omega)] at c3
    have eb : bkO w n (nI hh) = wY w n 7 hh := by
      unfold bkO
      rw [if_neg (by rw [n_eq0 h1]; omega), if_neg (fun z => n_lt0 h1 (by rw [z]; decide)), n_clamp (by omega)]
    refine wp_call (fetch_C (N := N) cr b5 hn (by omega) c3) (fun q => ?_)
    generalize k_X4_fetch N g H T s (nd g n + 1) (nI hh) (some (g + 28)) (nI 0) = Z at q ⊢
    unfold KO_X11_block_52 KF_X11_block_52 KO_X11_block_78 KF_X11_block_78
    rcases q with ⟨q1, q2⟩ | ⟨Y, q1, q2, q3, q4, q5, q6⟩
    · rw [q2]
      exact wp_neg (show ¬ (0 : Int32) ≤ -1 by decide) (wp_fin trivial ⟨((val none (eb.trans q1)).1 rfl).symm, h⟩)
    · have l := q2.2.1
      obtain ⟨e1, e2⟩ := eight_ok (N := N) (g := g) (H := H) (T := T) (i := i) q4 (Nat.le_refl _) hi (by omega)
      rw [q3]
      refine wp_pos (by rw [show (0 : Int32) = nI 0 from rfl, n_le' (by omega) (by omega)]; omega) (wp_and e1 (wp_fin trivial ⟨?_, ct, q5, q6⟩))
      rw [(val (some Y) (eb.trans q1)).2 Y rfl]
      show k_X11_eight N g H T Z.2 (some (g + 28)) (nI Y.length) (nI i) = _
      rw [e2, e8_ei (Nat.le_refl _)]
end
end
