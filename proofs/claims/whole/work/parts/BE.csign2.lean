section
/-! WHO IS IN A ROUND, WHO SAID WHAT -/
section
variable {F N g H T n : Nat} {s : cS} {ct : Nat → List Nat} {hd : List Nat} {w : Wd} {pe : Nat → Int} {G : Gh}
theorem GN.vt (k : GN F H T G w n) (hT : T ≤ 13) : vtO T w n := fun c p r j m hc hp hr hj e => by
  obtain ⟨q1, q2, q3, q4, q5, q6, q7, q8⟩ := k.2.2.1 c p r j m hc hp hr (by omega) e
  exact ⟨by omega, q7⟩
/-- the number of a node's height -/
theorem CR.h1 (h : CR F g H T s ct hd w pe) (hn : n < H) (h1 : 0 ≤ wN w n 1) : cI s 9 (nd g n) = nI (wN w n 1).toNat := by
  rw [(h.node hn).1.2.2.1, ← iI_n, Int.toNat_of_nonneg h1]
theorem CR.h2 (h : CR F g H T s ct hd w pe) (hn : n < H) (h1 : 0 ≤ wN w n 2) : cI s 10 (nd g n) = nI (wN w n 2).toNat := by
  rw [(h.node hn).1.2.2.2.1, ← iI_n, Int.toNat_of_nonneg h1]
theorem signers_C {r : Nat} (hN : 100 ≤ N) (cr : CR F g H T s ct hd w pe) (hn : n < H) (hu : wN w n 0 = 1) (k : GN F H T G w n) (hr : r < 16) : p_X8_signers N g H T s (nd g n + 14) (nI (wN w n 1).toNat) (nI r) ∧ k_X8_signers N g H T s (nd g n + 14) (nI (wN w n 1).toNat) (nI r) = nI (ahC w n T r T) := by
  have cb := cr.1.bb
  show wp (KO_X8_signers_0 N g H T (nd g n + 14) (nI (wN w n 1).toNat) (nI r) s) (KF_X8_signers_0 N g H T (nd g n + 14) (nI (wN w n 1).toNat) (nI r) s) (fun z => z = nI (ahC w n T r T))
  unfold KO_X8_signers_0 KF_X8_signers_0
  have eS : cI s 1 (nd g n + 14) = nI T := (cr.node hn).2.2.2.2.2.2.2.2.2.2.2.2.1
  have hv := k.vt (by omega)
  have h1 : 0 ≤ wN w n 1 := by have := k.a.2.1; omega
  obtain ⟨a1, a2⟩ := page_ok (N := N) (g := g) (H := H) (T := T) (S := s) (a0 := nd g n + 14) (h := (wN w n 1).toNat) hr
  obtain ⟨b1, b2⟩ := ballots_ok (N := N) (g := g) (H := H) (S := s) (a0 := nd g n + 14) (P := 16 * ((wN w n 1).toNat % 2) + r) (k := 2) eS (by omega)
  obtain ⟨c1, c2⟩ := ballots_ok (N := N) (g := g) (H := H) (S := s) (a0 := nd g n + 14) (P := 16 * ((wN w n 1).toNat % 2) + r) (k := 3) eS (by omega)
  rw [show 2 - 2 = 0 by omega] at b2
  rw [show 3 - 2 = 1 by omega] at c2
  rw [a2, b2, c2]
  have h0 : (0 : Int32) = nI 0 := rfl
  have eP : nd g n + 14 + 1 = nd g n + 15 := rfl
  have lt : 16 * ((wN w n 1).toNat % 2) + r < 32 := by omega
  refine wp_and a1 (wp_pos (by rw [h0, n_le' (by omega) (by omega)]; omega) (wp_and b1 (wp_and c1 (wp_and ((n_in (by omega)).2 (by omega)) ?_))))
  rw [n_clamp (by omega), eP]
  have fin : ∀ x6 : Int32, (∀ j, j < T → (nI j = x6 ↔ (wY w n 4 (16 * ((wN w n 1).toNat % 2) + r) ≠ none ∧ ((wN w n 1).toNat + r) % T = j))) → wp (KO_X8_signers_51 N g H T (nd g n + 14) (nI ((2 * (16 * ((wN w n 1).toNat % 2) + r) + 0) * T)) (nI ((2 * (16 * ((wN w n 1).toNat % 2) + r) + 1) * T)) x6 s) (KF_X8_signers_51 N g H T (nd g n + 14) (nI ((2 * (16 * ((wN w n 1).toNat % 2) + r) + 0) * T)) (nI ((2 * (16 * ((wN w n 1).toNat % 2) + r) + 1) * T)) x6 s) (fun z => z = nI (ahC w n T r T)) := fun x6 hx => by
    unfold KO_X8_signers_51 KF_X8_signers_51
    refine wp_seq (sign_l hN cr hn hu hv hr hx) (fun z hz => ?_)
    unfold KOA_X8_signers_59 KA_X8_signers_59 KO_X8_signers_110 KF_X8_signers_110
    exact wp_fin trivial hz
  rcases prop_at cr hn hu lt with ⟨p1, p2⟩ | ⟨a, m, p1, p2, p3, p4, p5, p6, p7⟩
  · rw [p1]
    refine wp_pos rfl (fin _ (fun j hj => ⟨fun e => ?_, fun e => absurd p2 e.1⟩))
    have q := n_lt0 (a := j) (by omega)
    rw [e] at q
    exact absurd (by decide) q
  · obtain ⟨q1, q2, q3, q4, q5, q6, q7, q8⟩ := k.2.2.2.1 ((wN w n 1).toNat % 2) r m (by omega) hr p2
    have l6 : 2 ≤ m.length := by
      have := q5.2.2.1.1
      rw [List.length_drop] at this
      omega
    obtain ⟨s1, s2⟩ := signer_c (N := N) (g := g) (H := H) (T := T) p4 l6
    have e2 : tw m 2 = (wN w n 1).toNat := by
      rcases q4 with q4 | q4 <;> omega
    have s3 : bg m 1 = ((wN w n 1).toNat + r) % T := by rw [q7, e2]
    have lt2 : ((wN w n 1).toNat + r) % T < T := Nat.mod_lt _ (by omega)
    rw [p1, zsome, s2, s3]
    refine wp_neg someN (wp_and ((n_in (by omega)).2 (by omega)) (wp_and s1 (fin _ (fun j hj => ⟨fun e => ?_, fun e => ?_⟩))))
    · have := n_inj (by omega) (by omega) e
      exact ⟨by rw [p2]; exact fun q => (by cases q), this.symm⟩
    · rw [e.2]
/-- a decision in its place -/
theorem dec_at {i : Nat} (h : CR F g H T s ct hd w pe) (hn : n < H) (k : GN F H T G w n) (hi : i < T) : (cP s (nd g n + 20) i = none ∧ wY w n 6 i = none) ∨ ∃ a m, cP s (nd g n + 20) i = some a ∧ wY w n 6 i = some m ∧ ct a = m ∧ mS s a m ∧ 1 ≤ us g H T s hd a ∧ cI s 4 a = nI 1 ∧ wf T m ∧ bg m 0 = 4 ∧ nmC s a (some (idB (m.drop 1))) := by
  have cb := h.1.bb
  have q := (h.node hn).2.2.2.2.2.2.2.1.1 i hi
  cases e : cP s (nd g n + 20) i with
  | none =>
    rw [e] at q
    exact Or.inl ⟨rfl, q.symm⟩
  | some a =>
    rw [e] at q
    have q : wY w n 6 i = some (ct a) := q.symm
    have c1 := cnA_hr (g := g) (H := H) (T := T) (s := s) (e := 2) hn (by decide) hi e
    have ua : 1 ≤ us g H T s hd a := by
      unfold us
      omega
    have f4 : cI s 4 a = nI 1 := (h.2.2.2.1.2.2.2.2.1 n 2 i a hn (by decide) hi e).2 (by decide)
    have hm := h.2.2.2.1.m ua
    have b0 := (k.2.2.2.2.1 i (ct a) (by omega) q).2.1
    have ei : idM (ct a) = some (idB ((ct a).drop 1)) := by
      unfold idM
      rw [if_neg (by omega), if_pos b0]
    have nm : wf T (ct a) ∧ nmC s a (idM (ct a)) := by
      rcases hm.2 with ⟨q, _⟩ | ⟨_, q⟩ | ⟨q, _⟩
      · rw [f4] at q
        exact absurd q (by decide)
      · exact q
      · rw [f4] at q
        exact absurd q (by decide)
    rw [ei] at nm
    exact Or.inr ⟨a, ct a, rfl, q, rfl, hm.1, ua, f4, nm.1, b0, nm.2⟩
theorem saC_s {d : List Nat} {j : Nat} : (wY w n 6 j = none → saC w n d (j + 1) = saC w n d j) ∧ ∀ m, wY w n 6 j = some m → (idB (m.drop 1) = d → saC w n d (j + 1) = saC w n d j + 1) ∧ (¬ idB (m.drop 1) = d → saC w n d (j + 1) = saC w n d j) := by
  refine ⟨fun e => ?_, fun m e => ⟨fun c => ?_, fun c => ?_⟩⟩
  · rw [saC, e]
    rfl
  · rw [saC, e]
    show saC w n d j + (if idB (m.drop 1) = d then 1 else 0) = _
    rw [if_pos c]
  · rw [saC, e]
    show saC w n d j + (if idB (m.drop 1) = d then 1 else 0) = _
    rw [if_neg c, Nat.add_zero]
theorem decisionsFor_C {a : Nat} {d : List Nat} (hN : 100 ≤ N) (h : CR F g H T s ct hd w pe) (hn : n < H) (k : GN F H T G w n) (ha : nmC s a (some d)) (hd1 : d.length = 32 ∧ isB d) : p_X8_decisionsFor N g H T s (nd g n + 14) (some a) ∧ k_X8_decisionsFor N g H T s (nd g n + 14) (some a) = nI (saC w n d T) := by
  have cb := h.1.bb
  have eS : cI s 1 (nd g n + 14) = nI T := (h.node hn).2.2.2.2.2.2.2.2.2.2.2.2.1
  show wp (KO_X8_decisionsFor_0 N g H T (nd g n + 14) (some a) s) (KF_X8_decisionsFor_0 N g H T (nd g n + 14) (some a) s) (fun z => z = nI (saC w n d T))
  unfold KO_X8_decisionsFor_0 KF_X8_decisionsFor_0
  refine wp_seq (Q := fun z => z.2.1 = nI (saC w n d T)) ?_ (fun z hz => ?_)
  rotate_left
  · unfold KOA_X8_decisionsFor_4 KA_X8_decisionsFor_4 KO_X8_decisionsFor_43 KF_X8_decisionsFor_43
    exact wp_fin trivial hz
  refine wp_loop (K := T) (fun _ (_ : Unit) => True) (fun m j _ => KOL_X8_decisionsFor_4 N g H T m (nd g n + 14) (some a) (nI (saC w n d j)) (nI j) s) (fun m j _ => KL_X8_decisionsFor_4 N g H T m (nd g n + 14) (some a) (nI (saC w n d j)) (nI j) s) (fun m j X hj hI ih => ?_) 0 N () (by omega) (by omega) trivial
  unfold KOL_X8_decisionsFor_4 KL_X8_decisionsFor_4 KOB_X8_decisionsFor_4 KB_X8_decisionsFor_4 KO_X8_decisionsFor_37 KF_X8_decisionsFor_37
  rw [eS]
  by_cases e : j = T
  · subst e
    exact wp_pos (by rw [n_le' (by omega) (by omega)]; omega) (wp_fin trivial rfl)
  rw [n_clamp (by omega), n_add, n_add]
  have eP : nd g n + 14 + 6 = nd g n + 20 := rfl
  rw [eP]
  refine wp_neg (by rw [n_le' (by omega) (by omega)]; omega) (wp_and ((n_in (by omega)).2 (by omega)) ?_)
  have st := ih () trivial (by omega)
  obtain ⟨y1, y2⟩ := saC_s (w := w) (n := n) (d := d) (j := j)
  rcases dec_at h hn k (show j < T by omega) with ⟨v1, v2⟩ | ⟨a', m', v1, v2, v3, v4, v5, v6, v7, v8, v9⟩
  · rw [v1]
    rw [y1 v2] at st
    exact wp_pos rfl st
  · rw [v1, zsome]
    refine wp_neg someN (wp_and ((n_in (by omega)).2 (by omega)) (wp_call (isFor_c v9 ha (fun d' e' => by cases e'; exact ⟨idB_len _, idB_B _⟩) (fun d' e' => by cases e'; exact hd1)) (fun q => ?_)))
    rcases q with ⟨q1, q2, _⟩ | ⟨q1, q2⟩
    · rw [q1]
      rw [(y2 m' v2).1 (Option.some.inj q2)] at st
      exact wp_neg (by decide) st
    · rw [q1]
      rw [(y2 m' v2).2 (fun q => q2 ⟨congrArg some q, fun z => by cases z⟩)] at st
      exact wp_pos rfl st
/-- a snapshot in its place -/
theorem snp_at {i : Nat} (h : CR F g H T s ct hd w pe) (hn : n < H) (k : GN F H T G w n) (hi : i < T) : (cP s (nd g n + 22) i = none ∧ wY w n 3 i = none) ∨ ∃ a m, cP s (nd g n + 22) i = some a ∧ wY w n 3 i = some m ∧ ct a = m ∧ mS s a m ∧ 1 ≤ us g H T s hd a ∧ bg m 0 = 7 ∧ snOK m ∧ isB m := by
  have cb := h.1.bb
  have q := (h.node hn).2.2.2.2.2.2.2.2.1.1 i hi
  cases e : cP s (nd g n + 22) i with
  | none =>
    rw [e] at q
    exact Or.inl ⟨rfl, q.symm⟩
  | some a =>
    rw [e] at q
    have q : wY w n 3 i = some (ct a) := q.symm
    have c1 := cnA_hr (g := g) (H := H) (T := T) (s := s) (e := 3) hn (by decide) hi e
    have ua : 1 ≤ us g H T s hd a := by
      unfold us
      omega
    have hm := h.2.2.2.1.m ua
    obtain ⟨b1, b2, b3, b4, b5⟩ := k.2.2.2.2.2.1 i (ct a) (by omega) q
    exact Or.inr ⟨a, ct a, rfl, q, rfl, hm.1, ua, b2, b3, b4⟩
theorem snC_s {m : List Nat} {j : Nat} : (wY w n 3 j = some m → snC w n m (j + 1) = snC w n m j + 1) ∧ (¬ wY w n 3 j = some m → snC w n m (j + 1) = snC w n m j) := by
  constructor
  · intro c
    rw [snC, if_pos c]
  · intro c
    rw [snC, if_neg c, Nat.add_zero]
theorem snapshotsLike_C {a : Nat} {m : List Nat} (hN : 200 ≤ N) (h : CR F g H T s ct hd w pe) (hn : n < H) (k : GN F H T G w n) (ha : mS s a m) (hm : m.length = 115) (hca : ct a = m) : p_X8_snapshotsLike N g H T s (nd g n + 14) (some a) ∧ k_X8_snapshotsLike N g H T s (nd g n + 14) (some a) = nI (snC w n m T) := by
  have cb := h.1.bb
  have eS : cI s 1 (nd g n + 14) = nI T := (h.node hn).2.2.2.2.2.2.2.2.2.2.2.2.1
  show wp (KO_X8_snapshotsLike_0 N g H T (nd g n + 14) (some a) s) (KF_X8_snapshotsLike_0 N g H T (nd g n + 14) (some a) s) (fun z => z = nI (snC w n m T))
  unfold KO_X8_snapshotsLike_0 KF_X8_snapshotsLike_0
  refine wp_seq (Q := fun z => z.2.1 = nI (snC w n m T)) ?_ (fun z hz => ?_)
  rotate_left
  · unfold KOA_X8_snapshotsLike_4 KA_X8_snapshotsLike_4 KO_X8_snapshotsLike_59 KF_X8_snapshotsLike_59
    exact wp_fin trivial hz
  refine wp_loop (K := T) (fun _ (_ : Unit) => True) (fun i j _ => KOL_X8_snapshotsLike_4 N g H T i (nd g n + 14) (some a) (nI (snC w n m j)) (nI j) s) (fun i j _ => KL_X8_snapshotsLike_4 N g H T i (nd g n + 14) (some a) (nI (snC w n m j)) (nI j) s) (fun i j X hj hI ih => ?_) 0 N () (by omega) (by omega) trivial
  unfold KOL_X8_snapshotsLike_4 KL_X8_snapshotsLike_4 KOB_X8_snapshotsLike_4 KB_X8_snapshotsLike_4 KO_X8_snapshotsLike_50 KF_X8_snapshotsLike_50 KO_X8_snapshotsLike_53 KF_X8_snapshotsLike_53
  rw [eS]
  by_cases e : j = T
  · subst e
    exact wp_pos (by rw [n_le' (by omega) (by omega)]; omega) (wp_fin trivial rfl)
  rw [n_clamp (by omega), n_add, n_add]
  have eP : nd g n + 14 + 8 = nd g n + 22 := rfl
  rw [eP]
  refine wp_neg (by rw [n_le' (by omega) (by omega)]; omega) (wp_and ((n_in (by omega)).2 (by omega)) ?_)
  have st := ih () trivial (by omega)
  obtain ⟨y1, y2⟩ := snC_s (w := w) (n := n) (m := m) (j := j)
  rcases snp_at h hn k (show j < T by omega) with ⟨v1, v2⟩ | ⟨a', m', v1, v2, v3, v4, v5, v6, v7, v8⟩
  · rw [v1]
    rw [y2 (by rw [v2]; exact fun z => by cases z)] at st
    exact wp_pos rfl st
  · rw [v1, zsome, zsome]
    refine wp_neg someN (wp_ite (fun c => ?_) (fun c => wp_and someN ?_))
    · have c := Option.some.inj c
      rw [y1 (by rw [v2, ← v3, c, hca])] at st
      exact st
    · refine wp_call (sameBytes_ok (n := 115) (p := 0) (q := 0) v4.2.2.1 ha.2.2.1 (by omega) (by rw [v7.1]; omega) (by omega)) (fun q => ?_)
      rcases q with ⟨q1, q2⟩ | ⟨q1, q2⟩
      · have em : m' = m := by_ext (by rw [v7.1, hm]) (fun i hi => by
          have := q1 i (by rw [v7.1] at hi; exact hi)
          rw [Nat.zero_add] at this
          exact this)
        rw [q2]
        rw [y1 (by rw [v2, em])] at st
        exact wp_neg (by decide) st
      · rw [q2]
        rw [y2 (fun z => q1 (fun i _ => by rw [v2] at z; rw [Option.some.inj z]))] at st
        exact wp_pos rfl st
theorem top_C {h : Nat} (cr : CR F g H T s ct hd w pe) (hn : n < H) (hu : wN w n 0 = 1) : ∃ t, t ≤ 16 ∧ p_X8_top N g H T s (nd g n + 14) (nI h) ∧ k_X8_top N g H T s (nd g n + 14) (nI h) = nI t ∧ ∀ r, t ≤ r → r < 16 → wY w n 4 (16 * (h % 2) + r) = none ∧ ∀ c k, c ≤ 1 → k < T → wY w n 5 (vq c (h % 2) r k) = none := by
  obtain ⟨z, cz, oz⟩ := cr.z_ hn
  obtain ⟨t, t1, t2, t3⟩ := cz.nz.2.2.2.2.2.2.1.2.2.2 (h % 2) (by omega)
  refine ⟨t, t1, ?_, ?_, fun r r1 r2 => ?_⟩
  · show vp_in (nI h &&& nI 1) 2 ∧ True
    rw [n_and1]
    exact ⟨((n_in (by omega)).2 (by omega)), trivial⟩
  · show cA s (nd g n + 14 + 3) (nI h &&& nI 1).toNatClampNeg = _
    rw [n_and1, n_clamp (by omega)]
    exact t2
  · obtain ⟨q1, q2⟩ := t3 r r1 r2
    rw [oz.1 hu 4 _ (Or.inl rfl)] at q1
    refine ⟨q1, fun c k hc hk => ?_⟩
    have := q2 c k hc hk
    rw [oz.1 hu 5 _ (Or.inr rfl)] at this
    exact this
theorem proposal_c {h r : Nat} (hr : r < 16) : p_X8_proposal N g H T s (nd g n + 14) (nI h) (nI r) ∧ k_X8_proposal N g H T s (nd g n + 14) (nI h) (nI r) = cP s (nd g n + 15) (16 * (h % 2) + r) := by
  show wp (KO_X8_proposal_0 N g H T (nd g n + 14) (nI h) (nI r) s) (KF_X8_proposal_0 N g H T (nd g n + 14) (nI h) (nI r) s) (fun z => z = cP s (nd g n + 15) (16 * (h % 2) + r))
  unfold KO_X8_proposal_0 KF_X8_proposal_0 KO_X8_proposal_21 KF_X8_proposal_21
  obtain ⟨a1, a2⟩ := page_ok (N := N) (g := g) (H := H) (T := T) (S := s) (a0 := nd g n + 14) (h := h) hr
  rw [a2, n_clamp (by omega)]
  have h0 : (0 : Int32) = nI 0 := rfl
  exact wp_and a1 (wp_pos (by rw [h0, n_le' (by omega) (by omega)]; omega) (wp_and ((n_in (by omega)).2 (by omega)) (wp_fin trivial rfl)))
theorem verdict_c {h r : Nat} (hr : r < 16) : p_X8_verdict N g H T s (nd g n + 14) (nI h) (nI r) ∧ k_X8_verdict N g H T s (nd g n + 14) (nI h) (nI r) = cA s (nd g n + 16) (16 * (h % 2) + r) := by
  show wp (KO_X8_verdict_0 N g H T (nd g n + 14) (nI h) (nI r) s) (KF_X8_verdict_0 N g H T (nd g n + 14) (nI h) (nI r) s) (fun z => z = cA s (nd g n + 16) (16 * (h % 2) + r))
  unfold KO_X8_verdict_0 KF_X8_verdict_0 KO_X8_verdict_21 KF_X8_verdict_21
  obtain ⟨a1, a2⟩ := page_ok (N := N) (g := g) (H := H) (T := T) (S := s) (a0 := nd g n + 14) (h := h) hr
  rw [a2, n_clamp (by omega)]
  have h0 : (0 : Int32) = nI 0 := rfl
  exact wp_and a1 (wp_pos (by rw [h0, n_le' (by omega) (by omega)]; omega) (wp_and ((n_in (by omega)).2 (by omega)) (wp_fin trivial rfl)))
theorem judge_c {h r j : Nat} (st : St 0 g H T s) (hn : n < H) (hr : r < 16) (hj : j = 0 ∨ j = 1) : p_X8_judge N g H T s (nd g n + 14) (nI h) (nI r) (nI j) ∧ k_X8_judge N g H T s (nd g n + 14) (nI h) (nI r) (nI j) = csA s (nd g n + 16) (16 * (h % 2) + r) (nI (2 - j)) := by
  show wp (KO_X8_judge_0 N g H T (nd g n + 14) (nI h) (nI r) (nI j) s) (KF_X8_judge_0 N g H T (nd g n + 14) (nI h) (nI r) (nI j) s) (fun z => z = csA s (nd g n + 16) (16 * (h % 2) + r) (nI (2 - j)))
  unfold KO_X8_judge_0 KF_X8_judge_0 KO_X8_judge_28 KF_X8_judge_28 KO_X8_judge_29 KF_X8_judge_29
  obtain ⟨a1, a2⟩ := page_ok (N := N) (g := g) (H := H) (T := T) (S := s) (a0 := nd g n + 14) (h := h) hr
  have L : cL s (nd g n + 14 + 2) = 32 := (st.2.1 6 3 (nd g n + 14) (o53 (isO5 hn)) (by omega) _ rfl).2.2.resolve_left (by decide)
  rw [a2, n_clamp (by omega), zsome, L]
  refine wp_and a1 (wp_neg (n_lt0 (by omega)) ?_)
  rcases hj with rfl | rfl
  · exact wp_pos rfl (wp_fin ⟨⟨someN, ((n_in (by omega)).2 (by omega))⟩, trivial⟩ rfl)
  · exact wp_neg (by decide) (wp_fin ⟨⟨someN, ((n_in (by omega)).2 (by omega))⟩, trivial⟩ rfl)
end
end
