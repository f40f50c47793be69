/-! longs; the lowest terms -/
abbrev nL (n : Nat) : Int64 := (nI n).toInt64
theorem nI_int {n : Nat} (h : n < 2147483648) : (nI n).toInt = n := Int32.toInt_ofNat_of_lt h
theorem nL_int {n : Nat} (h : n < 2147483648) : (nL n).toInt = n := by
  rw [nL, Int32.toInt_toInt64, nI_int h]
theorem nL_ext {x : Int64} {n : Nat} (hn : n < 2147483648) (h : x.toInt = n) : x = nL n := Int64.toInt_inj.mp (h.trans (nL_int hn).symm)
theorem nL_add {a b : Nat} (h : a + b < 2147483648) : nL a + nL b = nL (a + b) := by
  refine nL_ext h ?_
  rw [Int64.toInt_add, nL_int (by omega), nL_int (by omega), Int.bmod_def]
  split <;> omega
theorem nL_div {a b : Nat} (ha : a < 2147483648) (hb : b < 2147483648) : nL a / nL b = nL (a / b) := by
  have h1 : a / b ≤ a := Nat.div_le_self a b
  refine nL_ext (by omega) ?_
  rw [Int64.toInt_div, nL_int ha, nL_int hb, show ((a : Int).tdiv b) = ((a / b : Nat) : Int) from (Int.ofNat_tdiv a b).symm ▸ rfl, Int.bmod_def]
  generalize a / b = q at h1
  split <;> omega
theorem nL_mul {a b : Nat} (h : a * b < 2147483648) (ha : a < 2147483648) (hb : b < 2147483648) : nL a * nL b = nL (a * b) := by
  refine nL_ext h ?_
  rw [Int64.toInt_mul, nL_int ha, nL_int hb, show ((a : Int) * b) = ((a * b : Nat) : Int) from (Int.natCast_mul a b).symm, Int.bmod_def]
  generalize a * b = c at h
  split <;> omega
theorem nL_rem {a b : Nat} (ha : a < 2147483648) (hb : b < 2147483648) : nL a - nL a / nL b * nL b = nL (a % b) := by
  have h1 : a / b ≤ a := Nat.div_le_self a b
  have h2 : a / b * b ≤ a := Nat.div_mul_le_self a b
  have h3 := Nat.mod_add_div a b
  rw [Nat.mul_comm] at h3
  rw [nL_div ha hb, nL_mul (by omega) (by omega) hb]
  refine nL_ext (by omega) ?_
  rw [Int64.toInt_sub, nL_int ha, nL_int (by omega), Int.bmod_def]
  generalize a / b * b = c at h2 h3
  split <;> omega
theorem nL_0 {b : Nat} (hb : b < 2147483648) : nL b = nL 0 ↔ b = 0 := by
  constructor
  · intro h
    have := congrArg Int64.toInt h
    rw [nL_int hb, nL_int (by decide)] at this
    omega
  · intro h
    rw [h]
theorem lg_0 {x y : Int64} : lg_cmp x y = 0 ↔ x = y := by
  unfold lg_cmp
  split
  · rename_i c
    constructor
    · intro h
      exact absurd h (by decide)
    · intro h
      subst h
      exact absurd c (Int64.lt_irrefl)
  · split
    · rename_i c
      exact ⟨fun _ => c, fun _ => rfl⟩
    · rename_i c
      constructor
      · intro h
        exact absurd h (by decide)
      · intro h
        exact absurd h c
section
variable {d : Nat} {I : zMI} {rl rs : Option (Nat × Nat)} {Q : zPQ} {G : zMR}
set_option maxHeartbeats 4000000 in
set_option maxRecDepth 100000 in
theorem m_lowest {a b p : Nat} (ha : a < 2147483648) (hb : b < 2147483648) (hb0 : 0 < b) (hp : p ≤ 1) (h : Q (some (zl (nL ((if p = 0 then a else b) / Nat.gcd a b)))) I G) : zWm d 156 [zl (nL a), zl (nL b), zi (nI p)] I G Q := by
  have loop : ∀ m x y, y ≤ m → x < 2147483648 → y < 2147483648 → Nat.gcd x y = Nat.gcd a b → ∀ u9, zW d kX10_lowest (zblk kX10_lowest 1) [some (zl (nL a)), none, some (zl (nL b)), none, some (zi (nI p)), some (zl (nL x)), none, some (zl (nL y)), none, u9, none] [] I G Q := by
    intro m
    induction m with
    | zero =>
      intro x y hy hx hy2 hg u9
      have : y = 0 := Nat.le_zero.mp hy
      subst this
      have hx0 : x = Nat.gcd a b := by rw [← hg, Nat.gcd_zero_right]
      have hx1 : 0 < x := by rw [hx0]; exact Nat.gcd_pos_of_pos_right a hb0
      refine z_auto rfl ?_
      refine z_jp rfl ?_
      rcases p with _ | _ | p
      · refine z_auto rfl ?_
        refine z_st rfl ?_
        refine z_auto rfl ?_
        refine z_jp rfl ?_
        refine z_auto rfl ?_
        refine z_ck rfl (fun q => absurd ((nL_0 hx).mp q) (by omega)) ?_
        rw [nL_div ha hx, hx0]
        refine z_auto rfl ?_
        exact z_rt rfl h
      · refine z_auto rfl ?_
        refine z_jp rfl ?_
        refine z_auto rfl ?_
        refine z_jp rfl ?_
        refine z_auto rfl ?_
        refine z_ck rfl (fun q => absurd ((nL_0 hx).mp q) (by omega)) ?_
        rw [nL_div hb hx, hx0]
        refine z_auto rfl ?_
        exact z_rt rfl h
      · omega
    | succ m ih =>
      intro x y hy hx hy2 hg u9
      rcases Nat.eq_zero_or_pos y with q | q
      · exact ih x y (by omega) hx hy2 hg u9
      · refine z_auto rfl ?_
        refine z_br rfl (fun c => ?_) (fun c => ?_)
        · exact absurd ((nL_0 hy2).mp (lg_0.mp c)) (by omega)
        · refine z_auto rfl ?_
          refine z_ck rfl (fun q => absurd ((nL_0 hy2).mp q) (by omega)) ?_
          rw [nL_rem hx hy2]
          have hm := Nat.mod_lt x q
          have h5 := ih y (x % y) (by omega) hy2 (by omega) (by rw [← hg, Nat.gcd_comm x y, Nat.gcd_rec y x, Nat.gcd_comm]) (some (zl (nL (x % y))))
          refine z_auto rfl ?_
          refine z_jp rfl ?_
          exact h5
  refine z_auto rfl ?_
  refine z_jp rfl ?_
  exact loop b a b (Nat.le_refl _) ha hb rfl none
set_option maxHeartbeats 4000000 in
set_option maxRecDepth 100000 in
theorem s_lowest {a b p : Nat} (ha : a < 2147483648) (hb : b < 2147483648) (hb0 : 0 < b) (hp : p ≤ 1) (h : Q (some (zl (nL ((if p = 0 then a else b) / Nat.gcd a b)))) I G) : zWm d 107 [zi (nI a), zi (nI b), zi (nI p)] I G Q := by
  have hgb : Nat.gcd a b ≤ b := Nat.gcd_le_right a hb0
  have loop : ∀ by2, Nat.gcd a b ≤ by2 → by2 ≤ b → zW d kX9_inLowestTerms (zblk kX9_inLowestTerms 1) [some (zi (nI a)), some (zi (nI b)), some (zi (nI p)), some (zi (nI by2))] [] I G Q := by
    intro by2
    induction by2 with
    | zero =>
      intro h1 h2
      have := Nat.gcd_pos_of_pos_right a hb0
      omega
    | succ e ih =>
      intro h1 h2
      refine z_auto rfl ?_
      refine z_br rfl (fun c => ?_) (fun c => ?_)
      · have he : e = 0 := by
          apply Classical.byContradiction
          intro q
          exact absurd (nI_lt (a := 1) (b := e + 1) (by omega) (by omega)) (Int32.not_lt.mpr c)
        subst he
        have hg : Nat.gcd a b = 1 := by
          have := Nat.gcd_pos_of_pos_right a hb0
          omega
        rcases p with _ | _ | p
        · refine z_auto rfl ?_
          refine z_st rfl ?_
          refine z_auto rfl ?_
          refine z_jp rfl ?_
          refine z_auto rfl ?_
          exact z_rt rfl (by rw [hg, Nat.div_one] at h; exact h)
        · refine z_auto rfl ?_
          refine z_jp rfl ?_
          refine z_auto rfl ?_
          refine z_jp rfl ?_
          refine z_auto rfl ?_
          exact z_rt rfl (by rw [hg, Nat.div_one] at h; exact h)
        · omega
      · have he : 0 < e := by
          apply Classical.byContradiction
          intro q
          have : e = 0 := by omega
          subst this
          exact c (Int32.le_refl _)
        have ne : ¬ nI (e + 1) = 0 := fun q => absurd ((nI_eq (a := e + 1) (b := 0) (by omega) (by decide)).mp q) (by omega)
        have nxt : ¬ (e + 1 ∣ a ∧ e + 1 ∣ b) → zW d kX9_inLowestTerms (zblk kX9_inLowestTerms 4) [some (zi (nI a)), some (zi (nI b)), some (zi (nI p)), some (zi (nI (e + 1)))] [] I G Q := by
          intro hnd
          have hne : Nat.gcd a b ≠ e + 1 := fun q => hnd (by rw [← q]; exact ⟨Nat.gcd_dvd_left a b, Nat.gcd_dvd_right a b⟩)
          have h5 := ih (by omega) (by omega)
          refine z_auto rfl ?_
          rw [m_dec]
          refine z_auto rfl ?_
          refine z_jp rfl ?_
          exact h5
        refine z_auto rfl ?_
        refine z_ck rfl ne ?_
        rw [show nI a - nI a / nI (e + 1) * nI (e + 1) = nI (a % (e + 1)) from pk_rem (a := a) (d := e + 1) (by omega) (by omega) (by omega)]
        refine z_auto rfl ?_
        refine z_br rfl (fun c2 => ?_) (fun c2 => ?_)
        · exact nxt (fun q => c2 (by rw [Nat.mod_eq_zero_of_dvd q.1]; rfl))
        · refine z_auto rfl ?_
          refine z_ck rfl ne ?_
          rw [show nI b - nI b / nI (e + 1) * nI (e + 1) = nI (b % (e + 1)) from pk_rem (a := b) (d := e + 1) (by omega) (by omega) (by omega)]
          refine z_auto rfl ?_
          refine z_br rfl (fun c3 => ?_) (fun c3 => ?_)
          · exact nxt (fun q => c3 (by rw [Nat.mod_eq_zero_of_dvd q.2]; rfl))
          · have hma := Nat.mod_lt a (show e + 1 > 0 by omega)
            have hmb := Nat.mod_lt b (show e + 1 > 0 by omega)
            have d1 : e + 1 ∣ a := Nat.dvd_of_mod_eq_zero ((nI_eq (a := a % (e + 1)) (b := 0) (by omega) (by decide)).mp (Classical.not_not.mp c2))
            have d2 : e + 1 ∣ b := Nat.dvd_of_mod_eq_zero ((nI_eq (a := b % (e + 1)) (b := 0) (by omega) (by decide)).mp (Classical.not_not.mp c3))
            have hg : Nat.gcd a b = e + 1 := Nat.le_antisymm h1 (Nat.le_of_dvd (Nat.gcd_pos_of_pos_right a hb0) (Nat.dvd_gcd d1 d2))
            rcases p with _ | _ | p
            · refine z_auto rfl ?_
              refine z_st rfl ?_
              refine z_auto rfl ?_
              refine z_ck rfl ne ?_
              rw [show nI a / nI (e + 1) = nI (a / (e + 1)) from pk_div (a := a) (d := e + 1) (by omega) (by omega) (by omega)]
              refine z_auto rfl ?_
              refine z_jp rfl ?_
              refine z_auto rfl ?_
              exact z_rt rfl (by rw [hg] at h; exact h)
            · refine z_auto rfl ?_
              refine z_jp rfl ?_
              refine z_auto rfl ?_
              refine z_ck rfl ne ?_
              rw [show nI b / nI (e + 1) = nI (b / (e + 1)) from pk_div (a := b) (d := e + 1) (by omega) (by omega) (by omega)]
              refine z_auto rfl ?_
              refine z_jp rfl ?_
              refine z_auto rfl ?_
              exact z_rt rfl (by rw [hg] at h; exact h)
            · omega
  refine z_auto rfl ?_
  refine z_jp rfl ?_
  exact loop b hgb (Nat.le_refl _)
end
