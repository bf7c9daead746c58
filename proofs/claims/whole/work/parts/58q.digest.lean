/-! the digest -/
theorem dg92 (k il ms : Nat → Int32) (sr pm nr ns sd td hi sails seen : Int32) (hil : ∀ q : Nat, q < 4 → 0 ≤ (il q).toInt ∧ (il q).toInt ≤ 1100) (hd : 0 ≤ td.toInt ∧ td.toInt ≤ 999) (hz : ns = (0 : Int32) → ∀ q : Nat, il q = 0) (c2 : isB (ms 0) ∧ isB (ms 1) ∧ isB (ms 2)) (c3 : sd = ms 0 + (2 : Int32) * ms 1 + (4 : Int32) * ms 2) : ∀ (n : Nat) (x : Int64) (i : Nat), i ≤ 11 → fX5_digest_92 sr pm (if ns = (0 : Int32) then (0 : Int32) else (1 : Int32)) nr ns k il sd td hi sails seen n x i = (fX6_digest_47 pm ns nr td hi sails sr k il ms seen n i x).1 := by
  intro n
  induction n with
  | zero => intro x i _; rfl
  | succ n ih =>
    intro x i hi11
    rw [fX5_digest_92, fX6_digest_47]
    by_cases h4 : (10 : Int32) < nI i
    · have h5 : 10 < i := (nI_ltI (a := 10) (by decide) (by omega)).mp h4
      rw [if_pos h4, if_pos (show (11 : Int32) ≤ nI i from nI_le (a := 11) (by omega) (by omega))]
    · have h5 : i ≤ 10 := nI_gt (k := 10) (by decide) (by omega) h4
      rw [if_neg h4, if_neg (show ¬ (11 : Int32) ≤ nI i from nI_ge (b := 11) (by omega) (by omega)), count_eq k il ms sr pm nr ns sd td hi sails seen (nI i) hil hd hz c2 c3]
      exact ih _ (i + 1) (by omega)
theorem dg56 (pg k il ms : Nat → Int32) (sr pm nr ns sd td hi sails seen : Int32) (hil : ∀ q : Nat, q < 4 → 0 ≤ (il q).toInt ∧ (il q).toInt ≤ 1100) (hd : 0 ≤ td.toInt ∧ td.toInt ≤ 999) (hz : ns = (0 : Int32) → ∀ q : Nat, il q = 0) (c2 : isB (ms 0) ∧ isB (ms 1) ∧ isB (ms 2)) (c3 : sd = ms 0 + (2 : Int32) * ms 1 + (4 : Int32) * ms 2) : ∀ (n : Nat) (x : Int64) (i : Nat), fX5_digest_56 sr pg pm (if ns = (0 : Int32) then (0 : Int32) else (1 : Int32)) nr ns k il sd td hi sails seen n x i = (fX6_digest_20 pg pm ns nr td hi sails sr k il ms seen n i x).1 := by
  intro n
  induction n with
  | zero => intro x i; rfl
  | succ n ih =>
    intro x i
    rw [fX5_digest_56, fX6_digest_20]
    by_cases h4 : pm ≤ nI i
    · rw [if_pos h4, if_pos h4]
      exact dg92 k il ms sr pm nr ns sd td hi sails seen hil hd hz c2 c3 12 x 0 (by omega)
    · rw [if_neg h4, if_neg h4]
      exact ih _ (i + 1)
theorem dg28 (rb : Int64) (pg ce k il : Nat → Int32) (sr pm nr ns sd td hi sails seen : Int32) (h0 : ¬ ns = (0 : Int32)) : ∀ (n : Nat) (x : Int64) (i : Nat), i ≤ 36 → 36 - i < n → fX5_digest_28 sr pg pm (if ns = (0 : Int32) then (0 : Int32) else (1 : Int32)) rb nr ns k il ce sd td hi sails seen n x i = fX5_digest_56 sr pg pm (if ns = (0 : Int32) then (0 : Int32) else (1 : Int32)) nr ns k il sd td hi sails seen 41 (fX6_saySea_61 rb n i x) 0 := by
  intro n
  induction n with
  | zero => intro x i _ h; exact absurd h (Nat.not_lt_zero _)
  | succ n ih =>
    intro x i hi36 hn
    rw [fX5_digest_28, fX6_saySea_61]
    by_cases h4 : (36 : Int32) ≤ nI i
    · rw [if_pos h4, if_pos h4]
    · have h5 : i < 36 := Nat.not_le.mp fun q => h4 (nI_le (a := 36) q (by omega))
      have hc : okC ns (nI i) := ⟨h0, by rw [nI_toInt (by omega)]; omega, by rw [nI_toInt (by omega)]; omega⟩
      rw [if_neg h4, if_neg h4, fX5_cell, if_neg (mt (nc5 ns (nI i)).mp (fun q => q hc)), if_pos rfl, (rock_bit rb (show i < 64 by omega)).2]
      exact ih _ (i + 1) (by omega) (by omega)
theorem dgL14 (k il sl sy su sg : Nat → Int32) (ns td hi seen : Int32) (hil : ∀ q : Nat, q < 4 → 0 ≤ (il q).toInt ∧ (il q).toInt ≤ 1100) (hd : 0 ≤ td.toInt ∧ td.toInt ≤ 999) (h6 : 0 ≤ seen.toInt ∧ seen.toInt ≤ 6) (hs : sgOK sl sy su sg) {i : Nat} (h : okL ns (nI i)) : ∀ (n : Nat) (x : Int64) (j : Nat), j ≤ 6 → (fX5_digestOfLodgers_14 (if ns = (0 : Int32) then (0 : Int32) else (1 : Int32)) k il td seen sl sy su i n x j).1 = (fX6_saySea_9 td hi k il seen sg i n j x).2 := by
  intro n
  induction n with
  | zero => intro x j _; rfl
  | succ n ih =>
    intro x j hj
    rw [fX5_digestOfLodgers_14, fX6_saySea_9]
    by_cases h4 : (5 : Int32) < nI j
    · have h5 : 5 < j := (nI_ltI (a := 5) (by decide) (by omega)).mp h4
      rw [if_pos h4, if_pos (show (6 : Int32) ≤ nI j from nI_le (a := 6) (by omega) (by omega))]
    · have h5 : j ≤ 5 := nI_gt (k := 5) (by decide) (by omega) h4
      rw [if_neg h4, if_neg (show ¬ (6 : Int32) ≤ nI j from nI_ge (b := 6) (by omega) (by omega)), lodger_tell k il sl sy su sg ns td hi seen (nI i) (nI j) hil hd h6 hs h]
      exact ih _ (j + 1) (by omega)
theorem dgL (rb : Int64) (k il mc ms sl sy su sg : Nat → Int32) (ns td hi seen : Int32) (h0 : ¬ ns = (0 : Int32)) (hil : ∀ q : Nat, q < 4 → 0 ≤ (il q).toInt ∧ (il q).toInt ≤ 1100) (hd : 0 ≤ td.toInt ∧ td.toInt ≤ 999) (h6 : 0 ≤ seen.toInt ∧ seen.toInt ≤ 6) (hs : sgOK sl sy su sg) : ∀ (n : Nat) (x : Int64) (i : Nat), i ≤ 4 → 4 - i < n → fX6_saySea_2 ns rb td hi k il mc ms seen sg n i x = fX6_saySea_40 ns rb td hi k il mc ms 4 0 (fX5_digestOfLodgers_5 (if ns = (0 : Int32) then (0 : Int32) else (1 : Int32)) k il td seen sl sy su n x i) := by
  intro n
  induction n with
  | zero => intro x i _ h; exact absurd h (Nat.not_lt_zero _)
  | succ n ih =>
    intro x i hi4 hn
    rw [fX6_saySea_2, fX5_digestOfLodgers_5]
    by_cases h4 : (4 : Int32) ≤ nI i
    · rw [if_pos h4, if_pos h4]
    · have h5 : i < 4 := Nat.not_le.mp fun q => h4 (nI_le (a := 4) q (by omega))
      have hc : okL ns (nI i) := ⟨h0, by rw [nI_toInt (by omega)]; omega, by rw [nI_toInt (by omega)]; omega⟩
      rw [if_neg h4, if_neg h4, ← dgL14 k il sl sy su sg ns td hi seen hil hd h6 hs hc 7 x 0 (by omega)]
      exact ih _ (i + 1) (by omega) (by omega)
theorem dgS20 (rb : Int64) (k il ce mc ms : Nat → Int32) (ns sd td hi : Int32) {i A : Nat} (g : grd ce mc sd (nI i) ms A) (h : okS ns (nI i)) (E : Int64 → Int64) (hE : ∀ x : Int64, E x = (((31 : Int64) * (((31 : Int64) * (((31 : Int64) * (((31 : Int64) * (((31 : Int64) * (((31 : Int64) * (((31 : Int64) * x) + (fX6_tellSoon rb td hi k il mc ms (nI i) (0 : Int32) (0 : Int32)).toInt64)) + (fX6_tellSoon rb td hi k il mc ms (nI i) (0 : Int32) (10 : Int32)).toInt64)) + (fX6_tellSoon rb td hi k il mc ms (nI i) (35 : Int32) (0 : Int32)).toInt64)) + (fX6_tellSoon rb td hi k il mc ms (nI i) (35 : Int32) (10 : Int32)).toInt64)) + (fX6_neededOf rb td hi k il mc ms (nI i) (14 : Int32)).toInt64)) + (fX6_brickOf rb td hi k il mc ms (nI i) (14 : Int32)).toInt64)) + (fX6_asideOf rb td k il mc ms (nI i) (9 : Int32)).toInt64)) : ∀ (n : Nat) (x : Int64) (j : Nat), j ≤ 3 → 3 - j < n → fX6_sayShip_2 rb td hi k il mc ms (nI i) n j x = E ((fX5_digestOfShips_20 (if ns = (0 : Int32) then (0 : Int32) else (1 : Int32)) rb ns k il ce sd td hi i n x j).1) := by
  intro n
  induction n with
  | zero => intro x j _ h; exact absurd h (Nat.not_lt_zero _)
  | succ n ih =>
    intro x j hj hn
    rw [fX6_sayShip_2, fX5_digestOfShips_20]
    by_cases h4 : (2 : Int32) < nI j
    · have h5 : 2 < j := (nI_ltI (a := 2) (by decide) (by omega)).mp h4
      rw [if_pos h4, if_pos (show (3 : Int32) ≤ nI j from nI_le (a := 3) (by omega) (by omega)), hE]
    · have h5 : j ≤ 2 := nI_gt (k := 2) (by decide) (by omega) h4
      rw [if_neg h4, if_neg (show ¬ (3 : Int32) ≤ nI j from nI_ge (b := 3) (by omega) (by omega)), ship_tell rb k il ce mc ms ns sd td hi (nI i) (nI j) g h]
      exact ih _ (j + 1) (by omega) (by omega)
theorem dgS (rb : Int64) (k il ce mc ms : Nat → Int32) (ns sd td hi : Int32) (hd : 0 ≤ td.toInt ∧ td.toInt ≤ 999) (hn0 : ¬ ns = (0 : Int32)) (h0 : 0 ≤ ns.toInt) (h3 : ns.toInt ≤ 3) (c1 : ∀ q : Nat, (q : Int) < ns.toInt → ce q = mc q ∧ 0 ≤ (mc q).toInt ∧ (mc q).toInt < 36) (c2 : isB (ms 0) ∧ isB (ms 1) ∧ isB (ms 2)) (c3 : sd = ms 0 + (2 : Int32) * ms 1 + (4 : Int32) * ms 2) : ∀ (n : Nat) (x : Int64) (i : Nat), i ≤ 3 → 3 - i < n → fX6_saySea_40 ns rb td hi k il mc ms n i x = fX6_saySea_61 rb 37 0 (fX5_digestOfShips_5 (if ns = (0 : Int32) then (0 : Int32) else (1 : Int32)) rb ns k il ce sd td hi n x i) := by
  intro n
  induction n with
  | zero => intro x i _ h; exact absurd h (Nat.not_lt_zero _)
  | succ n ih =>
    intro x i hi3 hn
    rw [fX6_saySea_40, fX5_digestOfShips_5]
    by_cases h4 : ns ≤ nI i
    · rw [if_pos h4, if_pos h4]
    · have q := mt Int32.le_iff_toInt_le.mpr h4
      rw [nI_toInt (show i < 2 ^ 31 by omega)] at q
      have h : okS ns (nI i) := by
        unfold okS
        rw [nI_toInt (show i < 2 ^ 31 by omega)]
        omega
      obtain ⟨A, g⟩ := ground h h3 c1 c2 c3
      have k0 : okC ns (nI 0) := ⟨hn0, by decide, by decide⟩
      have k35 : okC ns (nI 35) := ⟨hn0, by decide, by decide⟩
      have k14 : okC ns (nI 14) := ⟨hn0, by decide, by decide⟩
      have s1 := soon_tell rb k il ce mc ms ns sd td hi (nI i) 0 g (C := 0) (by decide) h k0 (Or.inl rfl)
      have s2 := soon_tell rb k il ce mc ms ns sd td hi (nI i) 10 g (C := 0) (by decide) h k0 (Or.inr (by decide))
      have s3 := soon_tell rb k il ce mc ms ns sd td hi (nI i) 0 g (C := 35) (by decide) h k35 (Or.inl rfl)
      have s4 := soon_tell rb k il ce mc ms ns sd td hi (nI i) 10 g (C := 35) (by decide) h k35 (Or.inr (by decide))
      have s5 := need_tell rb k il ce mc ms ns sd td hi (nI i) g (C := 14) (by decide) h k14
      have s6 := brick_tell rb k il ce mc ms ns sd td hi (nI i) hd g (C := 14) (by decide) h k14
      have s7 := aside_tell rb k il ce mc ms ns sd td (nI i) 9 g h (by decide)
      rw [show nI 0 = (0 : Int32) from rfl] at s1 s2
      rw [show nI 35 = (35 : Int32) from rfl] at s3 s4
      rw [show nI 14 = (14 : Int32) from rfl] at s5 s6
      rw [if_neg h4, if_neg h4, s1, s2, s3, s4, s5, s6, s7, fX6_sayShip, dgS20 rb k il ce mc ms ns sd td hi g h _ (fun _ => rfl) 4 x 0 (by omega) (by omega)]
      exact ih _ (i + 1) (by omega) (by omega)
theorem digest_eq (rb : Int64) (pg k il ce mc ms sl sy su sg : Nat → Int32) (sr pm nr ns sd td hi sails seen : Int32) (hil : ∀ q : Nat, q < 4 → 0 ≤ (il q).toInt ∧ (il q).toInt ≤ 1100) (hd : 0 ≤ td.toInt ∧ td.toInt ≤ 999) (hz : ns = (0 : Int32) → ∀ q : Nat, il q = 0) (h6 : 0 ≤ seen.toInt ∧ seen.toInt ≤ 6) (hs : sgOK sl sy su sg) (h0 : 0 ≤ ns.toInt) (h3 : ns.toInt ≤ 3) (c1 : ∀ q : Nat, (q : Int) < ns.toInt → ce q = mc q ∧ 0 ≤ (mc q).toInt ∧ (mc q).toInt < 36) (c2 : isB (ms 0) ∧ isB (ms 1) ∧ isB (ms 2)) (c3 : sd = ms 0 + (2 : Int32) * ms 1 + (4 : Int32) * ms 2) : fX5_digest sr pg pm (if ns = (0 : Int32) then (0 : Int32) else (1 : Int32)) rb nr ns k il ce sd td hi sails seen sl sy su = (fX6_digest pg pm ns nr rb td hi sails sr k il mc ms seen sg).1 := by
  rw [fX5_digest, fX6_digest]
  by_cases hn : ns = (0 : Int32)
  · rw [if_pos ((dn_0 ns).mpr hn), if_neg (mt (lk6 ns).mp (fun q => q hn))]
    exact dg56 pg k il ms sr pm nr ns sd td hi sails seen hil hd hz c2 c3 41 1229 0
  · rw [if_neg (mt (dn_0 ns).mp hn), if_pos ((lk6 ns).mpr hn), fX6_saySea, dgL rb k il mc ms sl sy su sg ns td hi seen hn hil hd h6 hs 5 1229 0 (by omega) (by omega), dgS rb k il ce mc ms ns sd td hi hd hn h0 h3 c1 c2 c3 4 _ 0 (by omega) (by omega), dg28 rb pg ce k il sr pm nr ns sd td hi sails seen hn 37 _ 0 (by omega) (by omega), fX5_digestOfShips, fX5_digestOfLodgers]
    exact dg56 pg k il ms sr pm nr ns sd td hi sails seen hil hd hz c2 c3 41 _ 0
