section
/-! THE CLASS'S NODE ENTERS A HEIGHT: all of it -/
section
variable {F N g H T n : Nat} {s s' : cS} {ct : Nat → List Nat} {hd : List Nat} {w w' W : Wd} {pe pe' : Nat → Int} {v v' v0 : Nat → Int} {y y' z z' : Nat → Nat → Option (List Nat)} {p : List (List Nat)} {x : Nat → Nat → Nat} {pn : Int} {a x2 h0 : Nat} {k : Bk} {d : List Nat}
/-- what of a node's bytes is told -/
theorem CNz.yc (h : CNz g H T s ct n v y p x pn z) (h7 : y' 7 = y 7) (h6 : y' 6 = y 6) (h3 : y' 3 = y 3) (h2 : y' 2 = y 2) (h9 : y' 9 0 = y 9 0) (h0 : y' 0 0 = y 0 0) (h1 : y' 1 0 = y 1 0) : CNz g H T s ct n v y' p x pn z := by
  obtain ⟨c1, c2, c3, c4, c5, c6, c7, c8, c9, c10, c11, c12, c13, c14⟩ := h
  refine ⟨c1, c2, c3, c4, by rw [h7]; exact c5, by rw [h9]; exact c6, by rw [h9]; exact c7, by rw [h9, h6]; exact c8, ?_, c10, ?_, by rw [h7]; exact c12, c13, c14⟩
  · unfold qS_
    rw [h3, h2]
    exact c9
  · unfold qK
    rw [h0, h1]
    exact c11
theorem CNz.zc (h : CNz g H T s ct n v y p x pn z) (h4 : ∀ i, i < 32 → z' 4 i = z 4 i) (h5 : ∀ c q r j, c ≤ 1 → q ≤ 1 → r < 16 → j < T → z' 5 (vq c q r j) = z 5 (vq c q r j)) : CNz g H T s ct n v y p x pn z' := by
  obtain ⟨c1, c2, c3, c4, c5, c6, ⟨c7, c7b, c7c, c7d⟩, c8⟩ := h
  refine ⟨c1, c2, c3, c4, c5, c6, ⟨fun i hi => by rw [h4 i hi]; exact c7 i hi, fun c q r j a1 a2 a3 a4 => by rw [h5 c q r j a1 a2 a3 a4]; exact c7b c q r j a1 a2 a3 a4, fun i hi => ?_, fun q hq => ?_⟩, c8⟩
  · rw [h4 i hi]
    exact c7c i hi
  · obtain ⟨t, t1, t2, t3⟩ := c7d q hq
    refine ⟨t, t1, t2, fun r r1 r2 => ⟨by rw [h4 _ (by omega)]; exact (t3 r r1 r2).1, fun c j hc hj => by rw [h5 c q r j hc hq r2 hj]; exact (t3 r r1 r2).2 c j hc hj⟩⟩
theorem bkC_un {o : Nat} (h : bkC s o (vB (mkV v k))) : bkC s o k := by
  refine ⟨fun a ha => ?_, ?_⟩
  · rw [← mkV_i (v := v) (k := k) (i := a) (by omega), ← mkV_i (v := v) (k := k) (i := 16 + a) (by omega)]
    exact h.1 a ha
  · rw [← finB_cg (k := vB (mkV v k)) (k' := k) (fun a ha => mkV_32 ha)]
    exact h.2
/-- nothing is kept -/
theorem clS_n {q : Nat} {z1 : Nat → Nat → Option (List Nat)} (h : clS T (fun m => (-1 : Int32) = nI (bg m 1)) z q z1) (hB4 : ∀ i m, i < 32 → z 4 i = some m → isB m) (hB5 : ∀ c q r j m, c ≤ 1 → q ≤ 1 → r < 16 → j < T → z 5 (vq c q r j) = some m → isB m) (hq : q ≤ 1) : (∀ i, i < 32 → z1 4 i = if i / 16 = q then none else z 4 i) ∧ ∀ c q' r j, c ≤ 1 → q' ≤ 1 → r < 16 → j < T → z1 5 (vq c q' r j) = if q' = q then none else z 5 (vq c q' r j) := by
  obtain ⟨a1, a2, a3⟩ := h
  have no : ∀ m : List Nat, isB m → ¬ ((-1 : Int32) = nI (bg m 1)) := fun m hm e => by
    have b := hm 1
    have q := n_lt0 (a := bg m 1) (by omega)
    rw [← e] at q
    exact absurd (by decide) q
  have key : ∀ o : Option (List Nat), (∀ m, o = some m → isB m) → kpO (fun m => (-1 : Int32) = nI (bg m 1)) o = none := fun o ho => by
    cases o with
    | none => rfl
    | some m => exact kpO_d (no m (ho m rfl))
  constructor
  · intro i hi
    by_cases c : i / 16 = q
    · rw [if_pos c]
      have e := (a1 (i % 16) (by omega)).1
      rw [← c, show 16 * (i / 16) + i % 16 = i by omega] at e
      rw [e]
      exact key _ (fun m hm => hB4 i m hi hm)
    · rw [if_neg c]
      exact a2 i hi c
  · intro c q' r j hc hq' hr hj
    by_cases e : q' = q
    · rw [if_pos e, e, (a1 r hr).2 c j hc hj]
      exact key _ (fun m hm => hB5 c q r j m hc hq hr hj hm)
    · rw [if_neg e]
      exact a3 c q' r j hc hq' e hr hj
/-- from the cleared shelf on -/
theorem enter_36 (hN : 100 ≤ N) (h : CRz F g H T s ct hd W pe n (mkV (wN W n) k) (idY (wY W n) d) (wP W n) (wX W n) pn z) (hn : n < H) (hl : hd.length ≤ 28) (hu : wN W n 0 = 1) (h1 : wN W n 1 = h0) (hh : 1 ≤ h0 ∧ h0 ≤ 40) (hx : h0 < x2 ∧ x2 ≤ 41) (h5 : cI s 5 (nd g n + 6) = nI 1) (hA : ∀ j a, j < 4 → cP s (nd g n + 13) j = some a → x2 = h0 + 1 ∧ h0 % 4 ≠ j) (z4 : ∀ i, i < 32 → z 4 i = wY (aLift W n x2 d k) n 4 i) (z5 : ∀ c q r j, c ≤ 1 → q ≤ 1 → r < 16 → j < T → z 5 (vq c q r j) = wY (aLift W n x2 d k) n 5 (vq c q r j)) : wp (KO_X6_enter_36 N g H T (some (nd g n)) (nI x2) s) (KF_X6_enter_36 N g H T (some (nd g n)) (nI x2) s) (fun s' => CR F g H T s' ct hd (aLift W n x2 d k) (fun m => if m = n then (if 40 < x2 then -1 else 0) else pe m)) := by
  unfold KO_X6_enter_36 KF_X6_enter_36
  rw [zsome]
  have st := h.2.1
  have cd := clearDecided_Z (N := N) hN h hn (by omega)
  have m3 := (k3c_X8_clearDecided st (o53 (isO5 hn)) cd.1).2.2 n hn
  have m5 := (k5c_X8_clearDecided st (o53 (isO5 hn)) cd.1).2.2 n hn
  refine wp_and someN (wp_call cd (fun q => ?_))
  obtain ⟨a3, -⟩ := q
  generalize k_X8_clearDecided N g H T s (nd g n + 14) = s3 at a3 m3 m5 ⊢
  unfold KO_X6_enter_43 KF_X6_enter_43
  rw [zsome]
  have st3 := a3.2.1
  have sl := setLocked_Z (N := N) (r := -1) (xo := none) a3 hn (by omega) (fun a e => by cases e)
  rw [iI_m1] at sl
  have m5b := (k5c_X6_setLocked st3 (isO5 hn) tK_none sl.1).2.2 n hn
  refine wp_call (o := _ ∧ _) ⟨⟨someN, sl.1⟩, sl.2⟩ (fun q => ?_)
  obtain ⟨a4, p4, -⟩ := q
  generalize k_X6_setLocked N g H T s3 (nd g n) none (-1) = s4 at a4 p4 m5b ⊢
  unfold KO_X6_enter_49 KF_X6_enter_49
  rw [zsome]
  have st4 := a4.2.1
  have sv := setValid_Z (N := N) (r := -1) (xo := none) a4 hn (by omega) (fun a e => by cases e)
  rw [iI_m1] at sv
  have m5c := (k5c_X6_setValid st4 (isO5 hn) tK_none sv.1).2.2 n hn
  refine wp_call (o := _ ∧ _) ⟨⟨someN, sv.1⟩, sv.2⟩ (fun q => ?_)
  obtain ⟨a5, p5, -⟩ := q
  generalize k_X6_setValid N g H T s4 (nd g n) none (-1) = s5 at a5 p5 m5c ⊢
  have st5 := a5.2.1
  have L12 : cL s5 (nd g n + 12) = 3 := st5.rl (isO5 hn) (k := 6) rfl (by omega) (by omega)
  unfold KO_X6_enter_55 KF_X6_enter_55
  rw [zsome]
  refine wp_and someN (wp_call (fill_C (N := N) (g := g) (H := H) (T := T) (s := s5) (r := nd g n + 12) (by omega) L12) ?_)
  rintro ⟨f, fe, ff⟩
  rw [fe]
  have m5d : cI (csArow s5 (nd g n + 12) f) 5 (nd g n + 6) = nI 1 := by
    show cI s5 5 (nd g n + 6) = nI 1
    rw [m5c, m5b, m5]
    exact h5
  have hA6 : ∀ j a, j < 4 → cP (csArow s5 (nd g n + 12) f) (nd g n + 13) j = some a → x2 = h0 + 1 ∧ h0 % 4 ≠ j := fun j a hj ha => by
    have ha : cP s5 (nd g n + 13) j = some a := ha
    rw [p5, p4, m3] at ha
    exact hA j a hj ha
  have e4 : knV (knV (mkV (wN W n) k) 14 (-1)) 15 (-1) 4 = -1 := rfl
  have e5 : knV (knV (mkV (wN W n) k) 14 (-1)) 15 (-1) 5 = -1 := rfl
  have eo : ∀ j, j ≠ 4 → j ≠ 5 → knV (knV (mkV (wN W n) k) 14 (-1)) 15 (-1) j = mkV (wN W n) k j := fun j j4 j5 => by
    show (if j = 15 - 10 then -1 else if j = 14 - 10 then -1 else mkV (wN W n) k j) = _
    rw [if_neg (by omega), if_neg (by omega)]
  have hw6 : ∃ V : Nat → Int, V 4 = -1 ∧ V 5 = -1 ∧ (∀ j, j ≠ 4 → j ≠ 5 → (j < 9 ∨ 12 ≤ j) → V j = mkV (wN W n) k j) ∧ CRz F g H T (csArow s5 (nd g n + 12) f) ct hd W pe n V (knY (knY (fun f i => if f = 6 then none else idY (wY W n) d f i) 14 none) 15 none) (wP W n) (wX W n) pn z := by
    refine ⟨fun j => if 9 ≤ j ∧ j ≤ 11 then -1 else knV (knV (mkV (wN W n) k) 14 (-1)) 15 (-1) j, rfl, rfl, fun j j4 j5 j9 => ?_, ?_⟩
    · show (if 9 ≤ j ∧ j ≤ 11 then -1 else knV (knV (mkV (wN W n) k) 14 (-1)) 15 (-1) j) = _
      rw [if_neg (by omega), eo j j4 j5]
    · refine a5.tm hn (fun t ht => ?_) (fun j hj => if_neg (by omega))
      show f t = iI (tmC (if 9 ≤ 9 + t ∧ 9 + t ≤ 11 then -1 else _))
      rw [ff t ht, if_pos (by omega)]
      rfl
  obtain ⟨V, V4, V5, VO, a6⟩ := hw6
  have hT6 : ∀ t, t < 3 → cA (csArow s5 (nd g n + 12) f) (nd g n + 12) t = nI 0 := fun t ht => by
    rw [cA_same]
    exact ff t ht
  generalize csArow s5 (nd g n + 12) f = s6 at a6 m5d hA6 hT6 ⊢
  have y6 : ∀ i, knY (knY (fun f i => if f = 6 then none else idY (wY W n) d f i) 14 none) 15 none 6 i = none := fun i => by
    show (if 6 = 15 - 14 ∧ i = 0 then none else if 6 = 14 - 14 ∧ i = 0 then none else if 6 = 6 then none else _) = none
    rw [if_neg (by omega), if_neg (by omega), if_pos rfl]
  have v1 : V 1 = h0 := by rw [VO 1 (by decide) (by decide) (by decide), mkV_o (by decide)]; exact h1
  have hV6 : ∀ i, i < 32 → cA s6 (nd g n + 16) i = nI 0 := fun i hi => by
    rcases a6.nz.2.2.2.2.2.2.1.2.2.1 i hi with q | ⟨m, q1, q2, -⟩
    · exact q
    · rw [z4 i hi, aLift_4, h1, if_pos (Or.inl (by rw [q2, v1]))] at q1
      cases q1
  have hb6 : bkC s6 (nd g n + 6) k := by
    have q := a6.nz.2.2.2.2.2.1.1
    refine bkC_un (v := wN W n) (bkC_cg q (fun i hi => ?_))
    unfold vB
    rw [if_pos hi, if_pos hi]
    exact VO (32 + i) (by omega) (by omega) (by omega)
  unfold KO_X6_enter_63 KF_X6_enter_63 KO_X6_enter_73 KF_X6_enter_73 KO_X6_enter_83 KF_X6_enter_83
  rw [zsome]
  have fin : ∀ (pI : Int32) (pn' : Int), pI = iI pn' → CR F g H T (csI (csI (csI (csI (csI (csI (csI s6 9 (nd g n) (nI x2)) 10 (nd g n) (nI 0)) 11 (nd g n) (nI 0)) 16 (nd g n) (nI 0)) 17 (nd g n) (nI 0)) 6 (nd g n + 1) (nI 0)) 18 (nd g n) pI) ct hd (aLift W n x2 d k) (fun m => if m = n then pn' else pe m) := fun pI pn' hp => by
    have ne : nd g n ≠ nd g n + 1 := by omega
    have fr : cfr (fun b => b = nd g n ∨ b = nd g n + 1) s6 (csI (csI (csI (csI (csI (csI (csI s6 9 (nd g n) (nI x2)) 10 (nd g n) (nI 0)) 11 (nd g n) (nI 0)) 16 (nd g n) (nI 0)) 17 (nd g n) (nI 0)) 6 (nd g n + 1) (nI 0)) 18 (nd g n) pI) := by
      have one : ∀ (S : cS) (q : Nat) (u : Int32), cfr (fun b => b = nd g n ∨ b = nd g n + 1) S (csI S q (nd g n) u) := fun S q u => (cfr_I _ _ _ _).mono (fun b hb => Or.inl hb)
      have two : ∀ (S : cS) (q : Nat) (u : Int32), cfr (fun b => b = nd g n ∨ b = nd g n + 1) S (csI S q (nd g n + 1) u) := fun S q u => (cfr_I _ _ _ _).mono (fun b hb => Or.inr hb)
      exact ((((((one _ _ _).trans (one _ _ _)).trans (one _ _ _)).trans (one _ _ _)).trans (one _ _ _)).trans (two _ _ _)).trans (one _ _ _)
    have st7 : St 0 g H T (csI (csI (csI (csI (csI (csI (csI s6 9 (nd g n) (nI x2)) 10 (nd g n) (nI 0)) 11 (nd g n) (nI 0)) 16 (nd g n) (nI 0)) 17 (nd g n) (nI 0)) 6 (nd g n + 1) (nI 0)) 18 (nd g n) pI) := ((((((a6.2.1.I _ _ _).I _ _ _).I _ _ _).I _ _ _).I _ _ _).I _ _ _).I _ _ _
    have I : ∀ q b, ¬ (b = nd g n ∧ (q = 9 ∨ q = 10 ∨ q = 11 ∨ q = 16 ∨ q = 17 ∨ q = 18)) → ¬ (b = nd g n + 1 ∧ q = 6) → cI (csI (csI (csI (csI (csI (csI (csI s6 9 (nd g n) (nI x2)) 10 (nd g n) (nI 0)) 11 (nd g n) (nI 0)) 16 (nd g n) (nI 0)) 17 (nd g n) (nI 0)) 6 (nd g n + 1) (nI 0)) 18 (nd g n) pI) q b = cI s6 q b := fun q b q1 q2 => by
      rw [cI_other _ _ (by omega), cI_other _ _ (by omega), cI_other _ _ (by omega), cI_other _ _ (by omega), cI_other _ _ (by omega), cI_other _ _ (by omega), cI_other _ _ (by omega)]
    have j9 : cI (csI (csI (csI (csI (csI (csI (csI s6 9 (nd g n) (nI x2)) 10 (nd g n) (nI 0)) 11 (nd g n) (nI 0)) 16 (nd g n) (nI 0)) 17 (nd g n) (nI 0)) 6 (nd g n + 1) (nI 0)) 18 (nd g n) pI) 9 (nd g n) = nI x2 := by
      rw [cI_other _ _ (by omega), cI_other _ _ (by omega), cI_other _ _ (by omega), cI_other _ _ (by omega), cI_other _ _ (by omega), cI_other _ _ (by omega), cI_same]
    have j10 : cI (csI (csI (csI (csI (csI (csI (csI s6 9 (nd g n) (nI x2)) 10 (nd g n) (nI 0)) 11 (nd g n) (nI 0)) 16 (nd g n) (nI 0)) 17 (nd g n) (nI 0)) 6 (nd g n + 1) (nI 0)) 18 (nd g n) pI) 10 (nd g n) = nI 0 := by
      rw [cI_other _ _ (by omega), cI_other _ _ (by omega), cI_other _ _ (by omega), cI_other _ _ (by omega), cI_other _ _ (by omega), cI_same]
    have j11 : cI (csI (csI (csI (csI (csI (csI (csI s6 9 (nd g n) (nI x2)) 10 (nd g n) (nI 0)) 11 (nd g n) (nI 0)) 16 (nd g n) (nI 0)) 17 (nd g n) (nI 0)) 6 (nd g n + 1) (nI 0)) 18 (nd g n) pI) 11 (nd g n) = nI 0 := by
      rw [cI_other _ _ (by omega), cI_other _ _ (by omega), cI_other _ _ (by omega), cI_other _ _ (by omega), cI_same]
    have j16 : cI (csI (csI (csI (csI (csI (csI (csI s6 9 (nd g n) (nI x2)) 10 (nd g n) (nI 0)) 11 (nd g n) (nI 0)) 16 (nd g n) (nI 0)) 17 (nd g n) (nI 0)) 6 (nd g n + 1) (nI 0)) 18 (nd g n) pI) 16 (nd g n) = nI 0 := by
      rw [cI_other _ _ (by omega), cI_other _ _ (by omega), cI_other _ _ (by omega), cI_same]
    have j17 : cI (csI (csI (csI (csI (csI (csI (csI s6 9 (nd g n) (nI x2)) 10 (nd g n) (nI 0)) 11 (nd g n) (nI 0)) 16 (nd g n) (nI 0)) 17 (nd g n) (nI 0)) 6 (nd g n + 1) (nI 0)) 18 (nd g n) pI) 17 (nd g n) = nI 0 := by
      rw [cI_other _ _ (by omega), cI_other _ _ (by omega), cI_same]
    have l6 : cI (csI (csI (csI (csI (csI (csI (csI s6 9 (nd g n) (nI x2)) 10 (nd g n) (nI 0)) 11 (nd g n) (nI 0)) 16 (nd g n) (nI 0)) 17 (nd g n) (nI 0)) 6 (nd g n + 1) (nI 0)) 18 (nd g n) pI) 6 (nd g n + 1) = nI 0 := by
      rw [cI_other _ _ (by omega), cI_same]
    have j18 : cI (csI (csI (csI (csI (csI (csI (csI s6 9 (nd g n) (nI x2)) 10 (nd g n) (nI 0)) 11 (nd g n) (nI 0)) 16 (nd g n) (nI 0)) 17 (nd g n) (nI 0)) 6 (nd g n + 1) (nI 0)) 18 (nd g n) pI) 18 (nd g n) = iI pn' := by
      rw [cI_same]
      exact hp
    generalize csI (csI (csI (csI (csI (csI (csI s6 9 (nd g n) (nI x2)) 10 (nd g n) (nI 0)) 11 (nd g n) (nI 0)) 16 (nd g n) (nI 0)) 17 (nd g n) (nI 0)) 6 (nd g n + 1) (nI 0)) 18 (nd g n) pI = s7 at fr st7 I j9 j10 j11 j16 j17 l6 j18 ⊢
    have a7 := a6.ent (s' := s7) (v0 := wN W n) (x2 := x2) (k := k) (pn' := pn') hn fr st7 (I 1 _ (by omega) (by omega)) (I 8 _ (by omega) (by omega)) j9 j10 j11 (I 12 _ (by omega) (by omega)) (I 13 _ (by omega) (by omega)) j16 j17 j18 (I 5 _ (by omega) (by omega)) l6 (I 7 _ (by omega) (by omega)) (I 8 _ (by omega) (by omega)) (I 9 _ (by omega) (by omega)) (by rw [VO 0 (by decide) (by decide) (by decide), mkV_o (by decide)]) V4 V5 (fun j hj => by rw [VO j (by omega) (by omega) (by omega), mkV_o (by omega)]) hT6 hb6 m5d hV6 y6 (fun j a hj ha => by
      obtain ⟨r1, r2⟩ := hA6 j a hj ha
      rw [v1]
      exact ⟨by omega, by omega⟩) (by rw [v1]; omega)
    have eN : wN (aLift W n x2 d k) n = ltV (wN W n) x2 k := funext fun j => if_pos rfl
    have yY : ∀ f i, knY (knY (fun f i => if f = 6 then none else idY (wY W n) d f i) 14 none) 15 none f i = if f = 1 ∧ i = 0 then none else if f = 0 ∧ i = 0 then none else if f = 6 then none else if f = 9 then some d else wY W n f i := fun f i => rfl
    have b7 : CRz F g H T s7 ct hd W pe n (ltV (wN W n) x2 k) (wY (aLift W n x2 d k) n) (wP W n) (wX W n) pn' (wY (aLift W n x2 d k) n) := by
      refine a7.bb.zz ((a7.nz.zc (fun i hi => (z4 i hi).symm) (fun c q r j q1 q2 q3 q4 => (z5 c q r j q1 q2 q3 q4).symm)).yc ?_ ?_ ?_ ?_ ?_ ?_ ?_)
      · funext i
        rw [yY, if_neg (by omega), if_neg (by omega), if_neg (by omega), if_neg (by omega)]
        exact aLift_Y (by omega)
      · funext i
        rw [yY, if_neg (by omega), if_neg (by omega), if_pos rfl]
        exact aLift_Z (by omega)
      · funext i
        rw [yY, if_neg (by omega), if_neg (by omega), if_neg (by omega), if_neg (by omega)]
        exact aLift_Y (by omega)
      · funext i
        rw [yY, if_neg (by omega), if_neg (by omega), if_neg (by omega), if_neg (by omega)]
        exact aLift_Y (by omega)
      · rw [yY, if_neg (by omega), if_neg (by omega), if_neg (by omega), if_pos rfl]
        show (if n = n then (if 9 = 0 ∨ 9 = 1 ∨ 9 = 6 then none else if 9 = 4 ∧ (0 / 16 = (wN W n 1).toNat % 2 ∨ (wN W n 1).toNat + 1 < x2) then none else if 9 = 5 ∧ (0 % 416 / 208 = (wN W n 1).toNat % 2 ∨ (wN W n 1).toNat + 1 < x2) then none else if 9 = 9 then some d else W.2.1 n 9 0) else W.2.1 n 9 0) = _
        rw [if_pos rfl, if_neg (by decide), if_neg (by omega), if_neg (by omega), if_pos rfl]
      · rw [yY, if_neg (by omega), if_pos ⟨rfl, rfl⟩]
        exact aLift_Z (by omega)
      · rw [yY, if_pos ⟨rfl, rfl⟩]
        exact aLift_Z (by omega)
    refine b7.cr ⟨fun _ f i _ => rfl, fun q => absurd (by rw [ltV_o (by omega)]; exact hu) q⟩ (fun m hm => ⟨funext fun j => if_neg hm, funext fun f => funext fun i => if_neg hm, rfl, rfl⟩) rfl rfl rfl (fun m hm => if_neg hm) (if_pos rfl) eN rfl rfl rfl
  refine wp_and someN (wp_and someN (wp_and someN ?_))
  unfold KO_X6_enter_96 KF_X6_enter_96 KO_X6_enter_108 KF_X6_enter_108
  refine wp_ite (fun c => ?_) (fun c => ?_) <;> rw [n_lt' (by omega) (by omega)] at c
  · rw [if_pos c]
    exact wp_fin ⟨someN, trivial⟩ (fin (-1) (-1) rfl)
  · rw [if_neg c]
    exact wp_fin ⟨someN, trivial⟩ (fin (nI 0) 0 rfl)
theorem enter_C (hN : 100 ≤ N) (h : CRz F g H T s ct hd W pe n (mkV (wN W n) k) (idY (wY W n) d) (wP W n) (wX W n) pn z) (hn : n < H) (hl : hd.length ≤ 28) (hz : ∀ f i, f = 4 ∨ f = 5 → z f i = wY W n f i) (hu : wN W n 0 = 1) (h1 : wN W n 1 = h0) (hh : 1 ≤ h0 ∧ h0 ≤ 40) (hx : h0 < x2 ∧ x2 ≤ 41) (h5 : cI s 5 (nd g n + 6) = nI 1) (hA : ∀ j a, j < 4 → cP s (nd g n + 13) j = some a → x2 = h0 + 1 ∧ h0 % 4 ≠ j) (hB4 : ∀ i m, i < 32 → z 4 i = some m → isB m) (hB5 : ∀ c q r j m, c ≤ 1 → q ≤ 1 → r < 16 → j < T → z 5 (vq c q r j) = some m → isB m) : wp (p_X6_enter N g H T s (nd g n) (nI x2)) (k_X6_enter N g H T s (nd g n) (nI x2)) (fun s' => CR F g H T s' ct hd (aLift W n x2 d k) (fun m => if m = n then (if 40 < x2 then -1 else 0) else pe m)) := by
  have cb := h.1.bb
  have hT := cb.2.1
  have e9 : ∀ (S : cS) (Z : Nat → Nat → Option (List Nat)), CRz F g H T S ct hd W pe n (mkV (wN W n) k) (idY (wY W n) d) (wP W n) (wX W n) pn Z → cI S 9 (nd g n) = nI h0 := fun S Z c => by
    rw [c.nz.1.2.2.1, mkV_o (by decide), h1, iI_n]
  show wp (KO_X6_enter_0 N g H T (some (nd g n)) (nI x2) s) (KF_X6_enter_0 N g H T (some (nd g n)) (nI x2) s) _
  unfold KO_X6_enter_0 KF_X6_enter_0
  rw [zsome, e9 s z h]
  have c1 := clear_Z (N := N) (x2 := -1) (hh := h0) hN h hn (by omega) hT
  have m3 := (k3c_X8_clear h.2.1 (o53 (isO5 hn)) c1.1).2.2 n hn
  have m5 := (k5c_X8_clear h.2.1 (o53 (isO5 hn)) c1.1).2.2 n hn
  refine wp_and someN (wp_call c1 (fun q => ?_))
  obtain ⟨z1, a1, cl1, -⟩ := q
  generalize k_X8_clear N g H T s (nd g n + 14) (nI h0) (-1) = s1 at a1 m3 m5 ⊢
  obtain ⟨f4, f5⟩ := clS_n cl1 hB4 hB5 (by omega)
  unfold KO_X6_enter_12 KF_X6_enter_12
  rw [zsome, e9 s1 z1 a1, n_add]
  have vq2 : ∀ c q r j, q ≤ 1 → r < 16 → j < T → vq c q r j % 416 / 208 = q := fun c q r j q1 q2 q3 => by
    unfold vq
    omega
  refine wp_and someN (wp_ite (fun c => ?_) (fun c => ?_)) <;> rw [n_eq' (by omega) (by omega)] at c
  · refine enter_36 hN a1 hn hl hu h1 hh hx (by rw [m5]; exact h5) (fun j a hj ha => by rw [m3] at ha; exact hA j a hj ha) (fun i hi => ?_) (fun c q r j q1 q2 q3 q4 => ?_)
    · rw [f4 i hi, aLift_4, h1, hz 4 i (Or.inl rfl)]
      by_cases e : i / 16 = h0 % 2
      · rw [if_pos e, if_pos (Or.inl (by omega))]
      · rw [if_neg e, if_neg (by omega)]
    · rw [f5 c q r j q1 q2 q3 q4, aLift_5, h1, hz 5 _ (Or.inr rfl), vq2 c q r j q2 q3 q4]
      by_cases e : q = h0 % 2
      · rw [if_pos e, if_pos (Or.inl (by omega))]
      · rw [if_neg e, if_neg (by omega)]
  · have c2 := clear_Z (N := N) (x2 := -1) (hh := h0 + 1) hN a1 hn (by omega) hT
    have m3b := (k3c_X8_clear a1.2.1 (o53 (isO5 hn)) c2.1).2.2 n hn
    have m5b := (k5c_X8_clear a1.2.1 (o53 (isO5 hn)) c2.1).2.2 n hn
    refine wp_call c2 (fun q => ?_)
    obtain ⟨z2, a2, cl2, -⟩ := q
    generalize k_X8_clear N g H T s1 (nd g n + 14) (nI (h0 + 1)) (-1) = s2 at a2 m3b m5b ⊢
    obtain ⟨g4, g5⟩ := clS_n cl2 (fun i m hi e => by
      rw [f4 i hi] at e
      split at e
      · cases e
      · exact hB4 i m hi e) (fun c q r j m q1 q2 q3 q4 e => by
      rw [f5 c q r j q1 q2 q3 q4] at e
      split at e
      · cases e
      · exact hB5 c q r j m q1 q2 q3 q4 e) (by omega)
    refine enter_36 hN a2 hn hl hu h1 hh hx (by rw [m5b, m5]; exact h5) (fun j a hj ha => by rw [m3b, m3] at ha; exact hA j a hj ha) (fun i hi => ?_) (fun c q r j q1 q2 q3 q4 => ?_)
    · rw [g4 i hi, f4 i hi, aLift_4, h1, if_pos (Or.inr (by omega))]
      by_cases e : i / 16 = (h0 + 1) % 2
      · rw [if_pos e]
      · rw [if_neg e, if_pos (by omega)]
    · rw [g5 c q r j q1 q2 q3 q4, f5 c q r j q1 q2 q3 q4, aLift_5, h1, if_pos (Or.inr (by omega))]
      by_cases e : q = (h0 + 1) % 2
      · rw [if_pos e]
      · rw [if_neg e, if_pos (by omega)]
end
end
