section
/-! WHAT COMES TO A NODE: a payment -/
section
variable {F N g H T n : Nat} {s s0 S : cS} {ct : Nat → List Nat} {hd : List Nat} {w w' V X : Wd} {pe pe' : Nat → Int} {a b : Nat} {G : Gh}
theorem addPayment_C {c : List Nat} (hN : 100 ≤ N) (h : CR F g H T s ct hd w pe) (hn : n < H) (hu : wN w n 0 = 1) (ho : plO7 (wP w n)) (hc : c.length = 7 ∧ isB c) : wp (p_X8_addPayment N g H T s (nd g n + 14) (coD c)) (k_X8_addPayment N g H T s (nd g n + 14) (coD c)) (fun z => CR F g H T z.2 ct hd (aPool w n c).2 pe ∧ z.1 = nI (if (aPool w n c).1 then 1 else 0)) := by
  obtain ⟨z, cz, oz⟩ := h.z_ hn
  have qp := cz.nz.2.2.2.2.2.2.2.2.2.1
  obtain ⟨h1, h2, h3⟩ := id qp
  have fd := find_c (N := N) (g := g) (H := H) (T := T) hN qp ho hc
  show wp (KO_X8_addPayment_0 N g H T (nd g n + 14) (coD c) s) (KF_X8_addPayment_0 N g H T (nd g n + 14) (coD c) s) _
  unfold KO_X8_addPayment_0 KF_X8_addPayment_0 KO_X8_addPayment_17 KF_X8_addPayment_17
  have no : ((wP w n).length = 80 ∨ ∃ q, q < (wP w n).length ∧ pg (wP w n) q = c) → wp True (nI 0, s) (fun z => CR F g H T z.2 ct hd (aPool w n c).2 pe ∧ z.1 = nI (if (aPool w n c).1 then 1 else 0)) := fun q => by
    have e : aPool w n c = (false, w) := by
      unfold aPool
      rw [if_pos q]
    rw [e]
    exact wp_fin trivial ⟨h, rfl⟩
  rw [h1]
  refine wp_ite (fun d => ?_) (fun d => ?_) <;> rw [n_le' (by omega) (by omega)] at d
  · exact no (Or.inl (by omega))
  refine wp_and fd.1 ?_
  have f2 := fd.2
  generalize k_X8_find N g H T s (nd g n + 14) (coD c) = i0 at f2 ⊢
  rcases f2 with ⟨i, f1, f2, f3⟩ | ⟨f1, f3⟩
  · rw [f3]
    exact wp_neg (n_lt0 (by omega)) (no (Or.inr ⟨i, f1, f2⟩))
  have e : aPool w n c = (true, sP w n (wP w n ++ [c])) := by
    unfold aPool
    rw [if_neg (fun q => by
      rcases q with q | ⟨q, q1, q2⟩
      · omega
      · exact f1 (by rw [← q2]; exact pg_in q1))]
  have e4 : nd g n + 14 + 4 = nd g n + 18 := rfl
  rw [f3, e, n_clamp (by omega), e4]
  have i12 : cI (csJ s (nd g n + 18) (wP w n).length (coD c)) 12 (nd g n + 14) = nI (wP w n).length := h1
  unfold KO_X8_addPayment_39 KF_X8_addPayment_39
  rw [i12, n_add]
  have qp' : qP (csI (csJrow s (nd g n + 18) (vp_updL (cJ s (nd g n + 18)) (wP w n).length (coD c))) 12 (nd g n + 14) (nI ((wP w n).length + 1))) (nd g n) (wP w n ++ [c]) := by
    refine ⟨by rw [cI_same, List.length_append]; rfl, by rw [List.length_append]; show (wP w n).length + 1 ≤ 80; omega, fun q hq => ?_⟩
    rw [List.length_append] at hq
    have hq : q < (wP w n).length + 1 := hq
    show cJ (csJrow s (nd g n + 18) _) (nd g n + 18) q = _
    rw [cJ_same, pg_snoc]
    by_cases d2 : q < (wP w n).length
    · rw [if_pos d2]
      have : vp_updL (cJ s (nd g n + 18)) (wP w n).length (coD c) q = cJ s (nd g n + 18) q := if_neg (by omega)
      rw [this]
      exact h3 q d2
    · have e5 : q = (wP w n).length := by omega
      rw [if_neg d2, if_pos e5, e5]
      exact if_pos rfl
  have c2 : CRz F g H T (csI (csJrow s (nd g n + 18) (vp_updL (cJ s (nd g n + 18)) (wP w n).length (coD c))) 12 (nd g n + 14) (nI ((wP w n).length + 1))) ct hd w pe n (wN w n) (wY w n) (wP w n ++ [c]) (wX w n) (pe n) z := CRb.zz ((cz.bb.jr (o := 18) hn (by decide)).set hn ((cfr_I _ _ _ _).mono (fun b z => by unfold ndP; omega)) ((cz.2.1.Jr _ _).I _ _ _)) (cz.nz.pl qp')
  refine wp_pos (by decide) (wp_and ((n_in (by omega)).2 (by omega)) (wp_fin trivial ⟨?_, rfl⟩))
  exact c2.cr oz (fun m hm => ⟨rfl, rfl, if_neg hm, rfl⟩) rfl rfl rfl (fun _ _ => rfl) rfl rfl rfl (if_pos rfl) rfl
/-- what comes of a payment -/
theorem takePayment_C {m : List Nat} (hN : 100 ≤ N) (h : CR F g H T s ct hd w pe) (hn : n < H) (hu : wN w n 0 = 1) (ho : plO7 (wP w n)) (ha : a ∈ hd) (hca : ct a = m) (hm : m.length = 8) (hb : b < 13) : wp (p_X3_takePayment N g H T s (some (nd g n)) (nI b) (some a)) (k_X3_takePayment N g H T s (some (nd g n)) (nI b) (some a)) (fun s' => CR F g H T s' ct hd (if (aPool w n (sl m 1 7)).1 then aOn (aPool w n (sl m 1 7)).2 n T b b m else (aPool w n (sl m 1 7)).2) pe) := by
  have cb := h.1.bb
  have ms := h.ms (us_in (g := g) (H := H) (T := T) (s := s) ha)
  rw [hca] at ms
  obtain ⟨c1, c2⟩ := codeAt_ok (N := N) (g := g) (H := H) (T := T) (a := 1) hN ms.2.2.1 (by omega)
  show wp (KO_X3_takePayment_0 N g H T (some (nd g n)) (nI b) (some a) s) (KF_X3_takePayment_0 N g H T (some (nd g n)) (nI b) (some a) s) _
  unfold KO_X3_takePayment_0 KF_X3_takePayment_0
  rw [zsome, zsome, c2]
  refine wp_and someN (wp_and someN (wp_and c1 (wp_call (addPayment_C hN h hn hu ho ⟨sl_len _ _ _, isB_mk fun i _ => ms.2.2.1.2.2.2 _⟩) (fun q => ?_))))
  obtain ⟨q1, q2⟩ := q
  generalize k_X8_addPayment N g H T s (nd g n + 14) (coD (sl m 1 7)) = Z at q1 q2 ⊢
  obtain ⟨Z1, s1⟩ := Z
  have q1 : CR F g H T s1 ct hd (aPool w n (sl m 1 7)).2 pe := q1
  have q2 : Z1 = nI (if (aPool w n (sl m 1 7)).1 then 1 else 0) := q2
  show wp (KO_X3_takePayment_15 N g H T (some (nd g n)) (nI b) (some a) Z1 s1) (KF_X3_takePayment_15 N g H T (some (nd g n)) (nI b) (some a) Z1 s1) _
  unfold KO_X3_takePayment_15 KF_X3_takePayment_15 KO_X3_takePayment_32 KF_X3_takePayment_32
  have i1 : cI s1 1 (nd g n) = nI n := (q1.node hn).1.1
  rw [zsome, i1, q2]
  cases e : (aPool w n (sl m 1 7)).1 with
  | false =>
    rw [if_neg (by decide)]
    exact wp_pos rfl (wp_fin trivial q1)
  | true =>
    rw [if_pos rfl]
    refine wp_neg (by decide) (wp_and someN (wp_call (spread_C (N := N) (m := a) (f := n) (b := b) (c := b) hN q1 ha (by omega) (by omega) (by omega)) (fun q => ?_)))
    rw [hca] at q
    exact wp_fin trivial q.1
end
end
