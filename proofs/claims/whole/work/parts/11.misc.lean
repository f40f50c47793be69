/-! texts, the table, constants of the pool, switches -/
section
variable {dC : Nat → ClassId} {dI : Nat → Nat → Nat} {cI cZ cS : ClassId} {ad : zAD} {adV : Nat → Nat} {A : Nat → Prop} {p : Program} {l : Launch} {e : Env} {R : Room} {s : State} {m : MethodId} {args : Array Value} {below : List Frame} {meth : Method} {c : Code} {d own ret nL : Nat} {cc : ByteArray}
variable {pcs : List Nat} {pc npc : Nat} {L : zXL} {S : List zAV} {I : zMI} {G : zMR}
theorem zx_ldcs (X : zCx dC dI cI cZ cS ad adV A p R s m args meth c d own ret nL cc) {x a : Nat} (h : (own, x, a, 0) ∈ zSL) (hdg : decode cc pc = .ok (.ldc x, 2)) : zGd pcs pc (pc + 2) (zP dC dI cI cZ cS ad adV A p l e R s m args below meth c nL) L S I G (zex (41, a, 0, 0) L S I G) := by
  obtain ⟨hx, hb, hml, hown, hts, hlk, hrt, hK, hSt, hAp, hR⟩ := X
  show zGd _ _ _ _ _ _ _ _ (if a < 6 then _ else _)
  by_cases q : a < 6
  · rw [if_pos q]
    intro r k H locs ls hP hS hl hG hv hL
    have h6 : vk_R (zcn own) x (zstT.getD a "") (ad 60 a) s := hSt.2.2.2.2.2 (own, x, a, 0) h
    have hv' : zVs (zr 60 a :: S) := by
      refine And.intro ?_ hv
      show (60, a) ∈ zo ∨ _
      exact Or.inr (Or.inl rfl)
    have k' := k H locs ls hP hS hl hG hv' hL
    exact va_ldcS (tx := zstT.getD a "") (q := ad 60 a) hx hb hown h6 hdg k'
  · rw [if_neg q]
    exact trivial
theorem zx_ldc (X : zCx dC dI cI cZ cS ad adV A p R s m args meth c d 10 ret nL cc) (hdg : decode cc pc = .ok (.ldc 188, 2)) : zGd pcs pc (pc + 2) (zP dC dI cI cZ cS ad adV A p l e R s m args below meth c nL) L S I G (zex (3, 0, 0, 100000) L S I G) := by
  obtain ⟨hx, hb, hml, hown, hts, hlk, hrt, hK, hSt, hAp, hR⟩ := X
  exact fun r k H locs ls hP hS hl hG hv hL => lv_ldc hx hb hown (hts _ (zot_in (.constant RX10 188 100000) (by simp [zotW]))) hdg (k H locs ls hP hS hl hG ⟨trivial, hv⟩ hL)
theorem zx_ldc2a (X : zCx dC dI cI cZ cS ad adV A p R s m args meth c d 9 ret nL cc) (hdg : decode cc pc = .ok (.ldc2_w 220, 3)) : zGd pcs pc (pc + 3) (zP dC dI cI cZ cS ad adV A p l e R s m args below meth c nL) L S I G (zex (47, 0, 0, 0) L S I G) := by
  obtain ⟨hx, hb, hml, hown, hts, hlk, hrt, hK, hSt, hAp, hR⟩ := X
  exact fun r k H locs ls hP hS hl hG hv hL => lv_ldc2 hx hb hown (hts _ (zot_in (.constantLong RX9 220 (-9223372036854775808)) (by simp [zotW]))) hdg (k H locs ls hP hS hl hG ⟨trivial, hv⟩ hL)
theorem zx_ldc2b (X : zCx dC dI cI cZ cS ad adV A p R s m args meth c d 10 ret nL cc) (hdg : decode cc pc = .ok (.ldc2_w 195, 3)) : zGd pcs pc (pc + 3) (zP dC dI cI cZ cS ad adV A p l e R s m args below meth c nL) L S I G (zex (47, 0, 0, 0) L S I G) := by
  obtain ⟨hx, hb, hml, hown, hts, hlk, hrt, hK, hSt, hAp, hR⟩ := X
  exact fun r k H locs ls hP hS hl hG hv hL => lv_ldc2 hx hb hown (hts _ (zot_in (.constantLong RX10 195 (-9223372036854775808)) (by simp [zotW]))) hdg (k H locs ls hP hS hl hG ⟨trivial, hv⟩ hL)
theorem zx_ldc2c (X : zCx dC dI cI cZ cS ad adV A p R s m args meth c d 10 ret nL cc) (hdg : decode cc pc = .ok (.ldc2_w 197, 3)) : zGd pcs pc (pc + 3) (zP dC dI cI cZ cS ad adV A p l e R s m args below meth c nL) L S I G (zex (32, 0, 0, 40) L S I G) := by
  obtain ⟨hx, hb, hml, hown, hts, hlk, hrt, hK, hSt, hAp, hR⟩ := X
  intro r k H locs ls hP hS hl hG hv hL
  have e : (40 : Int32).toInt64 = 40 := by decide
  have k' := k H locs ls hP hS hl hG ⟨trivial, hv⟩ hL
  have e2 : zcv ad (zl (40 : Int32).toInt64) = .long 40 := by rw [e]; rfl
  rw [List.map_cons, e2] at k'
  exact lv_ldc2 hx hb hown (hts _ (zot_in (.constantLong RX10 197 40) (by simp [zotW]))) hdg k'
theorem zx_ldc2d (X : zCx dC dI cI cZ cS ad adV A p R s m args meth c d 10 ret nL cc) (hdg : decode cc pc = .ok (.ldc2_w 203, 3)) : zGd pcs pc (pc + 3) (zP dC dI cI cZ cS ad adV A p l e R s m args below meth c nL) L S I G (zex (32, 0, 0, 4) L S I G) := by
  obtain ⟨hx, hb, hml, hown, hts, hlk, hrt, hK, hSt, hAp, hR⟩ := X
  intro r k H locs ls hP hS hl hG hv hL
  have e : (4 : Int32).toInt64 = 4 := by decide
  have k' := k H locs ls hP hS hl hG ⟨trivial, hv⟩ hL
  have e2 : zcv ad (zl (4 : Int32).toInt64) = .long 4 := by rw [e]; rfl
  rw [List.map_cons, e2] at k'
  exact lv_ldc2 hx hb hown (hts _ (zot_in (.constantLong RX10 203 4) (by simp [zotW]))) hdg k'
theorem zx_getstatic (X : zCx dC dI cI cZ cS ad adV A p R s m args meth c d 4 ret nL cc) (hdg : decode cc pc = .ok (.getstatic 37, 3)) : zGd pcs pc (pc + 3) (zP dC dI cI cZ cS ad adV A p l e R s m args below meth c nL) L S I G (zex (45, 0, 0, 0) L S I G) := by
  obtain ⟨hx, hb, hml, hown, hts, hlk, hrt, hK, hSt, hAp, hR⟩ := X
  exact fun r k H locs ls hP hS hl hG hv hL => va_gets hx hb hSt.2.1 hS hown (hts _ (zot_in (.fieldLink RX4 37 "EggDrop$Layers" "ABOVE" "[I") (by simp [zotW]))) (fun _ h => h) hdg (k H locs ls hP hS hl hG ⟨Or.inr (Or.inr ⟨rfl, rfl⟩), hv⟩ hL)
theorem ztg_of {off : Int} {a : Nat} (h : ztg pcs pc off a = true) : (pc : Int) + off = (zgn pcs a : Int) ∧ a < pcs.length := by
  rw [ztg, Bool.and_eq_true] at h
  exact ⟨of_decide_eq_true h.1, of_decide_eq_true h.2⟩
theorem zofInt {k : Int} (h1 : -65536 ≤ k) (h2 : k ≤ 65536) : (Int32.ofInt k).toInt = k := by
  rw [Int32.toInt_ofInt]
  have hsz : ((Int32.size : Nat) : Int) = 4294967296 := rfl
  exact Int.bmod_eq_of_le (by rw [hsz]; omega) (by rw [hsz]; omega)
/-- what a table's cases come to -/
theorem zsw_t {x : Int32} {s0 : zXS} {df : Nat} : ∀ (os : List Int) (qs : List (Int32 × Nat)) (lo : Int), zswt pcs pc lo os qs = true → -65536 ≤ lo → lo + os.length ≤ 65537 →
    (zsw qs df x s0 = zeJ df s0 ∧ (x.toInt < lo ∨ lo + os.length ≤ x.toInt)) ∨ ∃ (off : Int) (b : Nat), zsw qs df x s0 = zeJ b s0 ∧ os[(x.toInt - lo).toNat]? = some off ∧ ztg pcs pc off b = true ∧ lo ≤ x.toInt ∧ x.toInt < lo + os.length := by
  intro os
  induction os with
  | nil =>
    intro qs lo h h1 h2
    cases qs with
    | cons q qs => cases h
    | nil =>
      refine Or.inl ⟨rfl, ?_⟩
      simp only [List.length_nil]
      omega
  | cons o os ih =>
    intro qs lo h h1 h2
    cases qs with
    | nil => cases h
    | cons q qs =>
      rw [zswt, Bool.and_eq_true, Bool.and_eq_true] at h
      obtain ⟨g1, g2, g3⟩ := h
      have g1 := of_decide_eq_true g1
      simp only [List.length_cons] at h2
      have h2' : lo + (os.length : Int) ≤ 65536 := by omega
      have e0 : (Int32.ofInt lo).toInt = lo := zofInt h1 (by omega)
      rw [zsw]
      by_cases hq : x = q.1
      · rw [if_pos hq]
        refine Or.inr ⟨o, q.2, rfl, ?_, g2, ?_, ?_⟩
        · rw [hq, g1, e0]
          simp
        · rw [hq, g1, e0]; omega
        · rw [hq, g1, e0]; simp only [List.length_cons]; omega
      · rw [if_neg hq]
        have hne : x.toInt ≠ lo := by
          intro z
          exact hq (by rw [g1]; exact Int32.toInt_inj.mp (z.trans e0.symm))
        rcases ih qs (lo + 1) g3 (by omega) (by omega) with ⟨e1, e2⟩ | ⟨off, b, e1, e2, e3, e4, e5⟩
        · refine Or.inl ⟨e1, ?_⟩
          simp only [List.length_cons]
          omega
        · refine Or.inr ⟨off, b, e1, ?_, e3, by omega, by simp only [List.length_cons]; omega⟩
          have : (x.toInt - lo).toNat = (x.toInt - (lo + 1)).toNat + 1 := by omega
          rw [this, List.getElem?_cons_succ]
          exact e2
theorem zx_tableswitch (X : zCx dC dI cI cZ cS ad adV A p R s m args meth c d own ret nL cc) {df lo hi : Int} {offs : Array Int} {len a b : Nat} (h1 : hi = lo + offs.toList.length - 1 ∧ -65536 ≤ lo ∧ hi ≤ 65536) (h2 : ztg pcs pc df (zgsw zSW a).2 = true) (h3 : zswt pcs pc lo offs.toList (zgsw zSW a).1 = true) (hdg : decode cc pc = .ok (.tableswitch df lo hi offs, len)) : zGd pcs pc (pc + len) (zP dC dI cI cZ cS ad adV A p l e R s m args below meth c nL) L S I G (zex (38, a, b, 0) L S I G) := by
  obtain ⟨hx, hb, hml, hown, hts, hlk, hrt, hK, hSt, hAp, hR⟩ := X
  rcases S with _ | ⟨v1, S⟩
  · exact trivial
  rcases v1 with x | y | y
  rotate_left
  · exact trivial
  · exact trivial
  show zGd _ _ _ _ _ _ _ _ (zsw (zgsw zSW a).1 (zgsw zSW a).2 x (L, S, I, G))
  rcases zsw_t (x := x) (s0 := (L, S, I, G)) (df := (zgsw zSW a).2) offs.toList (zgsw zSW a).1 lo h3 h1.2.1 (by omega) with ⟨e1, e2⟩ | ⟨off, q, e1, e2, e3, e4, e5⟩
  · rw [e1]
    exact ⟨(ztg_of h2).2, fun r k H locs ls hP hS hl hG hv hL => lv_tableOut hx hb hdg (by omega) (ztg_of h2).1 (k H locs ls hP hS hl hG hv.2 hL)⟩
  · rw [e1]
    exact ⟨(ztg_of e3).2, fun r k H locs ls hP hS hl hG hv hL => lv_tableIn hx hb hdg (by omega) (by omega) (by rw [← Array.getElem?_toList]; exact e2) (ztg_of e3).1 (k H locs ls hP hS hl hG hv.2 hL)⟩
theorem zsw_l {x : Int32} {s0 : zXS} {df : Nat} {dfo : Int} (hd : ztg pcs pc dfo df = true) : ∀ (os : List (Int × Int)) (qs : List (Int32 × Nat)), zlks pcs pc os qs = true →
    ∃ (off : Int) (b : Nat), zsw qs df x s0 = zeJ b s0 ∧ Op.lookupswitch.offset os dfo x.toInt = off ∧ ztg pcs pc off b = true := by
  intro os
  induction os with
  | nil =>
    intro qs h
    cases qs with
    | cons q qs => cases h
    | nil => exact ⟨dfo, df, rfl, rfl, hd⟩
  | cons o os ih =>
    intro qs h
    cases qs with
    | nil => cases h
    | cons q qs =>
      rw [zlks, Bool.and_eq_true, Bool.and_eq_true] at h
      obtain ⟨g1, g2, g3⟩ := h
      have g1 := of_decide_eq_true g1
      have e0 : (Int32.ofInt o.1).toInt = o.1 := zofInt g1.2.1 g1.2.2
      rw [zsw]
      by_cases hq : x = q.1
      · rw [if_pos hq]
        refine ⟨o.2, q.2, rfl, ?_, g2⟩
        have : x.toInt = o.1 := by rw [hq, g1.1, e0]
        obtain ⟨o1, o2⟩ := o
        simp [Op.lookupswitch.offset, this]
      · rw [if_neg hq]
        have hne : x.toInt ≠ o.1 := by
          intro z
          exact hq (by rw [g1.1]; exact Int32.toInt_inj.mp (z.trans e0.symm))
        obtain ⟨off, b, e1, e2, e3⟩ := ih qs g3
        refine ⟨off, b, e1, ?_, e3⟩
        obtain ⟨o1, o2⟩ := o
        rw [← e2]
        simp [Op.lookupswitch.offset, Ne.symm hne]
theorem zx_lookupswitch (X : zCx dC dI cI cZ cS ad adV A p R s m args meth c d own ret nL cc) {df : Int} {ps : Array (Int × Int)} {len a b : Nat} (h1 : (ps.toList.zip (ps.toList.drop 1)).all (fun (a, next) => decide (a.1 < next.1)) = true) (h2 : ztg pcs pc df (zgsw zSW a).2 = true) (h3 : zlks pcs pc ps.toList (zgsw zSW a).1 = true) (hdg : decode cc pc = .ok (.lookupswitch df ps, len)) : zGd pcs pc (pc + len) (zP dC dI cI cZ cS ad adV A p l e R s m args below meth c nL) L S I G (zex (38, a, b, 0) L S I G) := by
  obtain ⟨hx, hb, hml, hown, hts, hlk, hrt, hK, hSt, hAp, hR⟩ := X
  rcases S with _ | ⟨v1, S⟩
  · exact trivial
  rcases v1 with x | y | y
  rotate_left
  · exact trivial
  · exact trivial
  show zGd _ _ _ _ _ _ _ _ (zsw (zgsw zSW a).1 (zgsw zSW a).2 x (L, S, I, G))
  obtain ⟨off, q, e1, e2, e3⟩ := zsw_l (x := x) (s0 := (L, S, I, G)) h2 ps.toList (zgsw zSW a).1 h3
  rw [e1]
  exact ⟨(ztg_of e3).2, fun r k H locs ls hP hS hl hG hv hL => lv_lookup hx hb hdg h1 e2 (ztg_of e3).1 (k H locs ls hP hS hl hG hv.2 hL)⟩
end
