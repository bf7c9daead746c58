/-! by whom -/
def hG (rb g : Int64) (c : Nat) (P : Nat → Prop) (j : Nat) : Prop := P j ∧ ∃ t, ld rb c j = some t ∧ bt g t = true
def hF (rb g : Int64) (c : Nat) (P : Nat → Prop) (r : Nat) : Prop := r ≤ 5 ∧ (r < 5 → hG rb g c P r) ∧ ∀ j, j < r → ¬ hG rb g c P j
theorem hF_uniq {rb g : Int64} {c : Nat} {P : Nat → Prop} {r q : Nat} (h : hF rb g c P r) (h2 : hF rb g c P q) : r = q := by
  rcases Nat.lt_trichotomy r q with z | z | z
  · exact absurd (h.2.1 (by have := h2.1; omega)) (h2.2.2 r z)
  · exact z
  · exact absurd (h2.2.1 (by have := h.1; omega)) (h.2.2 q z)
theorem moved_hit {rb g : Int64} {c j : Nat} (hc : c < 36) (hj : j < 5) : (fX0_movedBy rb ((1 : Int64) <<< ((nI c).toInt64 &&& (63 : Int64))) (nI j) &&& g) = (0 : Int64) ↔ ¬ ∃ t, ld rb c j = some t ∧ bt g t = true := by
  cases e : ld rb c j with
  | none =>
    rw [(moved_none hc hj).mpr e]
    constructor
    · rintro _ ⟨t, h, _⟩; cases h
    · intro _
      apply bt_ext
      intro i hi
      rw [bt_and, bt_zero, Bool.false_and]
  | some t =>
    rw [moved_goal hc hj e]
    constructor
    · rintro h ⟨u, h1, h2⟩
      cases h1
      rw [h] at h2; cases h2
    · intro h
      cases e2 : bt g t
      · rfl
      · exact absurd ⟨t, rfl, e2⟩ h
theorem first3 (rb : Int64) {c : Nat} (hc : c < 36) (U : Int32) (g : Int64) (P : Nat → Prop) (hU : ∀ j, j < 5 → (upb U j ↔ P j)) : ∀ (n i : Nat), i ≤ 5 → 5 - i < n → (∀ j, j < i → ¬ hG rb g c P j) → ∃ r, fX4_firstHelm_3 rb (nI c) U g n i = nI r ∧ hF rb g c P r := by
  intro n
  induction n with
  | zero => intro i _ h; exact absurd h (Nat.not_lt_zero _)
  | succ n ih =>
    intro i hi hn hlow
    rw [fX4_firstHelm_3]
    by_cases h4 : (4 : Int32) < nI i
    · have h5 : 4 < i := (nI_ltI (a := 4) (by decide) (by omega)).mp h4
      rw [if_pos h4]
      exact ⟨5, rfl, Nat.le_refl _, fun q => absurd q (Nat.lt_irrefl _), fun j hj => hlow j (by omega)⟩
    · have h5 : i ≤ 4 := nI_gt (k := 4) (by decide) (by omega) h4
      rw [if_neg h4]
      by_cases hu : ((U >>> ((nI i) &&& 31)) &&& (1 : Int32)) = (0 : Int32)
      · rw [if_pos hu]
        refine ih (i + 1) (by omega) (by omega) fun j hj => ?_
        by_cases e : j = i
        · rw [e]; exact fun q => (hU i (by omega)).mpr q.1 hu
        · exact hlow j (by omega)
      · rw [if_neg hu]
        by_cases hm : (fX0_movedBy rb ((1 : Int64) <<< ((nI c).toInt64 &&& (63 : Int64))) (nI i) &&& g) = (0 : Int64)
        · rw [if_pos hm]
          refine ih (i + 1) (by omega) (by omega) fun j hj => ?_
          by_cases e : j = i
          · rw [e]; exact fun q => (moved_hit hc (by omega)).mp hm q.2
          · exact hlow j (by omega)
        · rw [if_neg hm]
          exact ⟨i, rfl, by omega, fun _ => ⟨(hU i (by omega)).mp hu, Decidable.not_not.mp fun q => hm ((moved_hit hc (by omega)).mpr q)⟩, hlow⟩
def hT (rb : Int64) (c r : Nat) : Int32 := if r = 5 then nI c else fX6_leads rb (nI c) (nI r)
theorem by100 (rb : Int64) (d h : Int32) (k il sa : Nat → Int32) (s : Int32) (m : Nat → Int64) {c : Nat} (hc : c < 36) (i : Nat) (g : Int64) (hg : m (nI i + (1 : Int32)).toNatClampNeg = g) (P : Nat → Prop) (hP : ∀ j, j < 5 → (P j ↔ (¬ fX6_isUp h k il (nI j) (d + nI i) = (0 : Int32) ∧ ((0 : Int32) < nI i ∨ sa s.toNatClampNeg = (0 : Int32))))) : ∀ (n b r : Nat), b ≤ 5 → b < n → r ≤ 5 → (r < 5 → hG rb g c P r) → (∀ j, b ≤ j → j < r → ¬ hG rb g c P j) → ∃ q, fX6_byWhom_100 rb d h k il sa s m (nI c) i n (nI r) (hT rb c r) (nI b + (-1 : Int32)) = (nI q, hT rb c q, nI 0 + (-1 : Int32)) ∧ hF rb g c P q := by
  intro n
  induction n with
  | zero => intro b r _ h; exact absurd h (Nat.not_lt_zero _)
  | succ n ih =>
    intro b r hb hn hr hr5 hlow
    rw [fX6_byWhom_100]
    cases b with
    | zero =>
      rw [if_pos (show nI 0 + (-1 : Int32) < (0 : Int32) by decide)]
      exact ⟨r, rfl, hr, hr5, fun j hj => hlow j (Nat.zero_le _) hj⟩
    | succ b =>
      rw [pk_m1, if_neg (nI_pos (by omega)), hg]
      have skip : ¬ hG rb g c P b → ∃ q, fX6_byWhom_100 rb d h k il sa s m (nI c) i n (nI r) (hT rb c r) (nI b + (-1 : Int32)) = (nI q, hT rb c q, nI 0 + (-1 : Int32)) ∧ hF rb g c P q := by
        intro hno
        refine ih b r (by omega) (by omega) hr hr5 fun j h1 h2 => ?_
        by_cases e : j = b
        · rw [e]; exact hno
        · exact hlow j (by omega) h2
      have core : P b → ∃ q, (if (fX6_leads rb (nI c) (nI b)) = (-1 : Int32) then (fX6_byWhom_100 rb d h k il sa s m (nI c) i n (nI r) (hT rb c r) (nI b + (-1 : Int32))) else (if ((g >>> ((fX6_leads rb (nI c) (nI b)).toInt64 &&& 63)) &&& (1 : Int64)) = (1 : Int64) then (fX6_byWhom_100 rb d h k il sa s m (nI c) i n (nI b) (fX6_leads rb (nI c) (nI b)) (nI b + (-1 : Int32))) else (fX6_byWhom_100 rb d h k il sa s m (nI c) i n (nI r) (hT rb c r) (nI b + (-1 : Int32))))) = (nI q, hT rb c q, nI 0 + (-1 : Int32)) ∧ hF rb g c P q := by
        intro hPb
        cases e : ld rb c b with
        | none =>
          rw [if_pos ((leads_none hc (by omega)).mpr e)]
          exact skip (fun q => by obtain ⟨_, t, q, _⟩ := q; rw [e] at q; cases q)
        | some t =>
          have ht := ld_lt hc (by omega) e
          rw [if_neg (fun q => by rw [(leads_none hc (by omega)).mp q] at e; cases e)]
          by_cases hb1 : ((g >>> ((fX6_leads rb (nI c) (nI b)).toInt64 &&& 63)) &&& (1 : Int64)) = (1 : Int64)
          · rw [if_pos hb1]
            have eT : hT rb c b = fX6_leads rb (nI c) (nI b) := by unfold hT; rw [if_neg (by omega)]
            rw [← eT]
            rw [leads_some hc (by omega) e] at hb1
            exact ih b b (by omega) (by omega) (by omega) (fun _ => ⟨hPb, t, e, (bit_1 g (by omega)).mp hb1⟩) (fun j h1 h2 => by omega)
          · rw [if_neg hb1]
            rw [leads_some hc (by omega) e] at hb1
            refine skip (fun q => ?_)
            obtain ⟨_, t2, q1, q2⟩ := q
            rw [e] at q1
            cases q1
            exact hb1 ((bit_1 g (by omega)).mpr q2)
      by_cases hu : fX6_isUp h k il (nI b) (d + nI i) = (0 : Int32)
      · rw [if_pos hu, if_pos rfl]
        exact skip (fun q => ((hP b (by omega)).mp q.1).1 hu)
      · rw [if_neg hu]
        by_cases h0 : (0 : Int32) < nI i
        · rw [if_pos h0]
          exact core ((hP b (by omega)).mpr ⟨hu, Or.inl h0⟩)
        · rw [if_neg h0]
          by_cases hs : sa s.toNatClampNeg = (0 : Int32)
          · rw [if_pos hs]
            exact core ((hP b (by omega)).mpr ⟨hu, Or.inr hs⟩)
          · rw [if_neg hs, if_pos rfl]
            exact skip (fun q => ((hP b (by omega)).mp q.1).2.elim h0 hs)
/-- a day's step on the way: the class's and the model's -/
theorem way_step (rb : Int64) (k il : Nat → Int32) (sd td hi s : Int32) (sa : Nat → Int32) (hs : hsd sd s sa) (m : Nat → Int64) {c i : Nat} (hc : c < 36) (hi8 : i ≤ 8) (g : Int64) (hg : m (nI i + (1 : Int32)).toNatClampNeg = g) : ∃ r, r ≤ 5 ∧ fX4_firstHelm rb (nI c) (fX2_upFor k il sd td hi s (nI i)) g = nI r ∧ fX6_byWhom_100 rb td hi k il sa s m (nI c) i 6 (5 : Int32) (nI c) (4 : Int32) = (nI r, hT rb c r, nI 0 + (-1 : Int32)) ∧ (r < 5 → ∃ t, ld rb c r = some t) := by
  have hU : ∀ j, j < 5 → (upb (fX2_upFor k il sd td hi s (nI i)) j ↔ (¬ fX6_isUp hi k il (nI j) (td + nI i) = (0 : Int32) ∧ ((0 : Int32) < nI i ∨ sa s.toNatClampNeg = (0 : Int32)))) := by
    intro j hj
    obtain ⟨h1, h2⟩ := hs
    by_cases h0 : i = 0
    · subst h0
      rcases h2 with q | q
      · rw [up_bit k il sd td hi s (nI 0) (fun _ => by rw [h1, q]) hj]
        exact ⟨fun z => ⟨z, Or.inr q⟩, fun z => z.1⟩
      · rw [show nI 0 = (0 : Int32) from rfl, up_none k il sd td hi s (by rw [h1, q]; decide)]
        constructor
        · intro z; exact absurd z (upb_0 j hj)
        · rintro ⟨_, z | z⟩
          · exact absurd z (by decide)
          · rw [q] at z; exact absurd z (by decide)
    · rw [up_bit k il sd td hi s (nI i) (fun z => absurd z (nI_ne0 (by omega) (by omega))) hj]
      exact ⟨fun z => ⟨z, Or.inl (nI_lt (a := 0) (by omega) (by omega))⟩, fun z => z.1⟩
  obtain ⟨r, e1, e2⟩ := first3 rb hc (fX2_upFor k il sd td hi s (nI i)) g _ hU 6 0 (by omega) (by omega) (fun j hj => absurd hj (Nat.not_lt_zero _))
  obtain ⟨q, e3, e4⟩ := by100 rb td hi k il sa s m hc i g hg _ (fun j hj => Iff.rfl) 6 5 5 (by omega) (by omega) (by omega) (fun z => absurd z (by omega)) (fun j h1 h2 => by omega)
  have : r = q := hF_uniq e2 e4
  subst this
  refine ⟨r, e2.1, ?_, ?_, fun z => ?_⟩
  · rw [fX4_firstHelm]; exact e1
  · exact e3
  · obtain ⟨_, t, z, _⟩ := e2.2.1 z
    exact ⟨t, z⟩
theorem helm84 (rb : Int64) (k il ce : Nat → Int32) (sd td hi s : Int32) (sa : Nat → Int32) (hs : hsd sd s sa) (o m : Nat → Int64) (c0 : Int32) {F : Nat} (hF7 : F ≤ 7) (hm : ∀ j, 1 ≤ j → (fX4_traceBack o rb k il sd td hi s c0 (fX4_daysTo rb k il ce sd td hi s c0)) j = m j) : ∀ (n : Nat) (c i : Nat) (x t : Int32), c < 36 → i ≤ 8 → (F < i → x = t) → fX4_helmOn_41 o rb k il ce sd td hi s c0 (nI F) n (nI c) x i = fX6_byWhom_84 rb td hi k il sa s (nI F) m n (nI c) t i := by
  intro n
  induction n with
  | zero => intro c i x t _ _ _; rfl
  | succ n ih =>
    intro c i x t hc hi8 hx
    rw [fX4_helmOn_41, fX6_byWhom_84]
    by_cases h : nI F < nI i
    · rw [if_pos h, if_pos h]
      exact hx ((nI_ltI (by omega) (by omega)).mp h)
    · have hi2 : i ≤ F := nI_gt (by omega) (by omega) h
      rw [if_neg h, if_neg h]
      have ec : (nI i + (1 : Int32)).toNatClampNeg = i + 1 := by rw [nI_1, nI_clamp (by omega)]
      rw [ec, hm (i + 1) (by omega)]
      obtain ⟨r, h1, h2, h3, h4⟩ := way_step rb k il sd td hi s sa hs m hc hi8 (m (i + 1)) (by rw [ec])
      rw [h2, h3]
      by_cases h5 : r = 5
      · subst h5
        rw [if_pos (show nI 5 = (5 : Int32) from rfl)]
        show fX4_helmOn_41 o rb k il ce sd td hi s c0 (nI F) n (nI c) (nI 5) (i + 1) = fX6_byWhom_84 rb td hi k il sa s (nI F) m n (hT rb c 5) (nI 5) (i + 1)
        rw [show hT rb c 5 = nI c from if_pos rfl]
        exact ih c (i + 1) _ _ hc (by omega) (fun _ => rfl)
      · have hr : r < 5 := by omega
        obtain ⟨u, hu⟩ := h4 hr
        have hul := ld_lt hc hr hu
        rw [if_neg (show ¬ nI r = (5 : Int32) from fun z => h5 ((nI_eq (b := 5) (by omega) (by omega)).mp z))]
        show fX4_helmOn_41 o rb k il ce sd td hi s c0 (nI F) n (fX0_landing rb (nI c) (nI r)) (nI r) (i + 1) = fX6_byWhom_84 rb td hi k il sa s (nI F) m n (hT rb c r) (nI r) (i + 1)
        rw [landing_eq rb hc hr, show hT rb c r = fX6_leads rb (nI c) (nI r) from if_neg h5, leads_some hc hr hu]
        exact ih u (i + 1) _ _ hul (by omega) (fun _ => rfl)
theorem trace32 (rb : Int64) (k il ce : Nat → Int32) (sd td hi s no : Int32) (sa : Nat → Int32) : ∀ (n a : Nat) (o m : Nat → Int64), a ≤ 41 → a < n → (∀ j, 1 ≤ j → o j = m j) → ∃ m2, fX6_byWhom_32 rb td hi k il ce sa s no n (nI a + (-1 : Int32)) m = fX6_byWhom_84 rb td hi k il sa s no m2 9 (ce s.toNatClampNeg) (-1 : Int32) 0 ∧ ∀ j, 1 ≤ j → fX4_traceBack_16 rb k il sd td hi s n (nI a + (-1 : Int32)) o j = m2 j := by
  intro n
  induction n with
  | zero => intro a o m _ h; exact absurd h (Nat.not_lt_zero _)
  | succ n ih =>
    intro a o m h41 hn ho
    rw [fX6_byWhom_32, fX4_traceBack_16]
    cases a with
    | zero =>
      rw [if_pos (show nI 0 + (-1 : Int32) < (0 : Int32) by decide), if_pos (show nI 0 + (-1 : Int32) < (0 : Int32) by decide)]
      exact ⟨m, rfl, ho⟩
    | succ a =>
      rw [pk_m1, if_neg (nI_pos (by omega)), if_neg (nI_pos (by omega)), nI_1, nI_clamp (by omega), nI_clamp (by omega)]
      refine ih a _ _ (by omega) (by omega) fun j hj => ?_
      by_cases e : j = a
      · subst e
        rw [pk_uLs, pk_uLs, ho (j + 1) (by omega)]
        exact back_day rb _ k il sd td hi s (nI j) (fun z => absurd z (nI_ne0 (by omega) (by omega)))
      · rw [pk_uLn e, pk_uLn e]
        exact ho j hj
theorem helm_eq (rb : Int64) (k il ce mc : Nat → Int32) (sd td hi s : Int32) (sa : Nat → Int32) (hs : hsd sd s sa) (hm : mc s.toNatClampNeg = ce s.toNatClampNeg) {A C F : Nat} (hA : A < 36) (ha : ce s.toNatClampNeg = nI A) (hC : C < 36) (hF7 : F ≤ 7) : fX4_helmOnC rb k il ce sd td hi s (nI C) (nI F) = fX6_byWhomC rb td hi k il mc sa s (nI C) (nI F) := by
  have de := daysTo_eq rb k il ce mc sd td hi s sa hs hm hA ha hC
  have dl := soonOf_le rb td hi k il mc sa s (nI C)
  rw [fX4_helmOnC, fX6_byWhomC, fX4_helmOn, fX6_byWhom, de]
  by_cases h : nI F < fX6_soonOf rb td hi k il mc sa s (nI C)
  · rw [if_pos h, if_pos h]
    have h1 := Int32.lt_iff_toInt_lt.mp h
    rw [nI_toInt (by omega)] at h1
    obtain ⟨D, hD, eD, eD2⟩ := ge_nI (x := fX6_soonOf rb td hi k il mc sa s (nI C)) (by omega)
    rw [eD2] at h1 dl
    rw [eD] at de ⊢
    obtain ⟨D, rfl⟩ : ∃ q, D = q + 1 := ⟨D - 1, by omega⟩
    obtain ⟨m2, e1, e2⟩ := trace32 rb k il mc sd td hi s (nI F) sa 42 (D + 1) (vp_updL (fun _ => 0) (D + 1) ((1 : Int64) <<< ((nI C).toInt64 &&& 63))) (vp_updL (fun _ => 0) (D + 1) ((1 : Int64) <<< ((nI C).toInt64 &&& 63))) (by omega) (by omega) (fun _ _ => rfl)
    rw [nI_clamp (by omega), nI_pred, ← pk_m1 D, e1, hm, ha]
    refine helm84 rb k il ce sd td hi s sa hs (fun _ => 0) m2 (nI C) hF7 (fun j hj => ?_) 9 A 0 _ _ hA (by omega) (fun z => absurd z (Nat.not_lt_zero _))
    rw [de, fX4_traceBack, nI_clamp (by omega), nI_pred, ← pk_m1 D]
    exact e2 j hj
  · rw [if_neg h, if_neg h]
