/-! a whole fall: what it leaves in the latest -/
/-- only the latest fall, its egg and the schools' test numbers changed -/
def zFr (I I' : zMI) : Prop := ∀ c i k, c ≠ 3 → c ≠ 34 → (c ≠ 2 ∨ i ≠ 2) → I' c i k = I c i k
theorem zup_cf {I : zMI} {c i k c' : Nat} {v : Int32} (h : c' ≠ c) : zup I c i k v c' = I c' := by
  funext i' k'
  exact zup_c h
theorem zLy_3 {I : zMI} {i k t : Nat} {v : Int32} : zLy (zup I 3 i k v) t = zLy I t := by
  funext x k
  unfold zLy
  split <;> exact zup_c (by decide)
theorem zLy_34 {I : zMI} {i k t : Nat} {v : Int32} : zLy (zup I 34 i k v) t = zLy I t := by
  funext x k
  unfold zLy
  split <;> exact zup_c (by decide)
theorem zeg2 {I : zMI} {c i : Nat} {a b x y : Int32} : zup (zup (zup (zup I c i 0 a) c i 1 b) c i 0 x) c i 1 y = zup (zup I c i 0 x) c i 1 y := by
  funext c' i' k'
  unfold zup
  by_cases q1 : c' = c ∧ i' = i ∧ k' = 1
  · simp [q1]
  · by_cases q0 : c' = c ∧ i' = i ∧ k' = 0
    · simp [q0]
    · simp only [if_neg q1, if_neg q0]
theorem zFr.rf {I : zMI} : zFr I I := fun _ _ _ _ _ _ => rfl
theorem zFr.tr {I J K : zMI} (h1 : zFr I J) (h2 : zFr J K) : zFr I K := fun c i k a b e => (h2 c i k a b e).trans (h1 c i k a b e)
theorem zES_fr {I J : zMI} {j : Nat} {C : List zCl} (h : ∀ c k, (c = 6 ∨ c = 30 ∨ c = 31 ∨ c = 32 ∨ c = 33) → J c j k = I c j k) (hE : zES I j C) : zES J j C := by
  obtain ⟨e1, e2, e3, e4, e5, e6⟩ := hE
  refine ⟨by rw [h 6 5 (by omega)]; exact e1, e2, e3, e4, fun i c hc => ?_, fun k t hk => by rw [h 33 k (by omega)]; exact e6 k t hk⟩
  rw [h 30 i (by omega), h 31 i (by omega), h 32 i (by omega)]
  exact e5 i c hc
theorem zev_congr {v w : Nat → Int32} (h : ∀ k, k < 5 → v k = w k) : ∀ (p : List Nat) (st : List Bool), zev v p st = zev w p st := by
  have h1 : ∀ t st, zev1 v t st = zev1 w t st := by
    intro t st
    have ht : t < 1500 → ztest v t = ztest w t := by
      intro ht
      unfold ztest
      rw [h (t / 300) (by omega)]
    rcases st with _ | ⟨b, _ | ⟨a, r⟩⟩
    · by_cases q : t < 1500
      · simp [zev1, q, ht q]
      · simp [zev1, q]
    · by_cases q : t < 1500
      · simp [zev1, q, ht q]
      · simp [zev1, q]
    · by_cases q : t < 1500
      · simp [zev1, q, ht q]
      · simp [zev1, q]
  intro p
  induction p with
  | nil => intro st; rfl
  | cons t p ih => intro st; rw [zev, zev, h1, ih]
theorem zcsum_congr {v w : Nat → Int32} (h : ∀ k, k < 5 → v k = w k) (C : List zCl) (n : Nat) : zcsum v C n = zcsum w C n := by
  induction C with
  | nil => rfl
  | cons c C ih =>
    have e : zcB v c.2.2 = zcB w c.2.2 := by
      unfold zcB
      rw [zev_congr h]
    rw [zcsum, zcsum, ih, e]
/-- the side on which a fall lands -/
def fLd (C : List zCl) (a f : Int32) : Int32 := (a + zlast C 1 1 * f) - (a + zlast C 1 1 * f) / 4 * 4
def fVal (f ld k w t : Int32) : Nat → Int32
  | 0 => f
  | 1 => ld
  | 2 => k
  | 3 => w
  | _ => t
def fBl (C : List zCl) (f ld w t add : Int32) : Int32 := 5 * f + nI (zcsum (fVal f ld 9 w t) C 2) + w + add
/-- force first, force behind the bounce, who is broken -/
noncomputable def fFl (A : Nat → Nat → Int32) (n : Nat) (f ld out bl b0 : Int32) : Int32 × (Int32 × Int32) :=
  if bl ≤ 20 then ((gFt A f ld out n (bl, b0)).1, (0, (gFt A f ld out n (bl, b0)).2))
  else ((gFt A f ld out n (bl, b0)).1, gFt A f (ld + 1 - (ld + 1) / 4 * 4) out n (bl / 2, (gFt A f ld out n (bl, b0)).2))
/-- all numbers of a fall: lands, first, second, broken, whether it bounces -/
noncomputable def fAll (I : zMI) (C : List zCl) (n t : Nat) (f a add out : Int32) : Int32 × ((Int32 × (Int32 × Int32)) × Int32) :=
  (fLd C a f, (fFl (zLy I t) n f (fLd C a f) out (fBl C f (fLd C a f) (zww (I 23 0) out n / 10) (I 1 0 6 - I 1 0 6 / 10 * 10) add) (I 4 0 6), if fBl C f (fLd C a f) (zww (I 23 0) out n / 10) (I 1 0 6 - I 1 0 6 / 10 * 10) add ≤ 20 then 0 else 1))
section
variable {d : Nat} {I : zMI} {rl rs : Option (Nat × Nat)} {Q : zPQ} {j : Nat} {C : List zCl}
set_option maxHeartbeats 4000000 in
set_option maxRecDepth 100000 in
theorem s_happen (hE : zES I j C) {n t : Nat} (hn : I 4 0 7 = nI n) (h8 : n ≤ 8) (ht : t < 100000) (hty : I 1 0 6 = nI t) {f a add out : Int32}
    (h : ∀ I' : zMI, zFr I I' → (∀ k, I' 2 2 k = I 2 2 k) → I' 3 0 1 = (fAll I C n t f a add out).1 → I' 3 0 7 = (fAll I C n t f a add out).2.1.1 → I' 3 0 8 = (fAll I C n t f a add out).2.1.2.1 → I' 3 0 2 = (fAll I C n t f a add out).2.1.2.2 → I' 3 0 9 = (fAll I C n t f a add out).2.2 → Q none I' (zRR (some (4, 0)) rs)) :
    zWm (d + 3) 16 [zr 3 0, zr 1 0, zr 6 j, zi f, zi a, zi add, zi out] I (zRR rl rs) Q := by
  refine z_auto rfl ?_
  rw [zur_l]
  try simp (decide := true) only [zup_eq, zup_cf, zup_i, zup_k, zLy_3, zLy_34, ne_eq, not_false_eq_true]
  refine z_auto rfl ?_
  refine z_cl rfl (s_last (C := C) (w := 1) (zES_fr (fun c k hc => by rcases hc with rfl | rfl | rfl | rfl | rfl <;> simp [zup]) hE) (by omega) ?_)
  refine z_auto rfl ?_
  try simp (decide := true) only [zup_eq, zup_cf, zup_i, zup_k, zLy_3, zLy_34, ne_eq, not_false_eq_true]
  refine z_auto rfl ?_
  first | refine z_st rfl ?_ | refine z_ck rfl (by decide) ?_
  refine z_auto rfl ?_
  try simp (decide := true) only [zup_eq, zup_cf, zup_i, zup_k, zLy_3, zLy_34, ne_eq, not_false_eq_true]
  refine z_auto rfl ?_
  refine z_cl rfl (s_weight (n := n) (by simp [zup]; exact hn) h8 ?_)
  refine z_auto rfl ?_
  try simp (decide := true) only [zup_eq, zup_cf, zup_i, zup_k, zLy_3, zLy_34, ne_eq, not_false_eq_true]
  refine z_auto rfl ?_
  first | refine z_st rfl ?_ | refine z_ck rfl (by decide) ?_
  refine z_auto rfl ?_
  try simp (decide := true) only [zup_eq, zup_cf, zup_i, zup_k, zLy_3, zLy_34, ne_eq, not_false_eq_true]
  refine z_auto rfl ?_
  first | refine z_st rfl ?_ | refine z_ck rfl (by decide) ?_
  refine z_auto rfl ?_
  refine z_cl rfl (s_setTest ?_)
  refine z_auto rfl ?_
  try simp (decide := true) only [zup_eq, zup_cf, zup_i, zup_k, zLy_3, zLy_34, ne_eq, not_false_eq_true]
  have hz : ∀ ld w : Int32, ∀ J : zMI, zcsum ((zup (zup (zup (zup (zup J 34 j 0 f) 34 j 1 ld) 34 j 2 9) 34 j 3 w) 34 j 4 (I 1 0 6 - I 1 0 6 / 10 * 10)) 34 j) C 2 = zcsum (fVal f ld 9 w (I 1 0 6 - I 1 0 6 / 10 * 10)) C 2 := by
    intro ld w J
    refine zcsum_congr (fun k hk => ?_) C 2
    match k, hk with
    | 0, _ => simp [zup, fVal]
    | 1, _ => simp [zup, fVal]
    | 2, _ => simp [zup, fVal]
    | 3, _ => simp [zup, fVal]
    | 4, _ => simp [zup, fVal]
    | k + 5, h => exact absurd h (by omega)
  refine z_auto rfl ?_
  refine z_cl rfl (s_sum (C := C) (w := 2) (zES_fr (fun c k hc => by rcases hc with rfl | rfl | rfl | rfl | rfl <;> simp [zup]) hE) (by omega) (by omega) ?_)
  rw [hz]
  refine z_auto rfl ?_
  try simp (decide := true) only [zup_eq, zup_cf, zup_i, zup_k, zLy_3, zLy_34, ne_eq, not_false_eq_true]
  generalize hld : a + zlast C 1 1 * f - (a + zlast C 1 1 * f) / 4 * 4 = ld
  generalize hw : zww (I 23 0) out n / 10 = w
  generalize hb : 5 * f + nI (zcsum (fVal f ld 9 w (I 1 0 6 - I 1 0 6 / 10 * 10)) C 2) + w + add = bl
  have hfl : fLd C a f = ld := hld
  have hfb : fBl C f ld w (I 1 0 6 - I 1 0 6 / 10 * 10) add = bl := hb
  unfold fAll at h
  rw [hfl, hw, hfb] at h
  dsimp only at h
  refine z_auto rfl ?_
  refine z_cl rfl (s_goThrough (n := n) (t := t) (by simp [zup]; exact hn) h8 ht (by simp [zup]; exact hty) ?_)
  try simp (decide := true) only [zup_eq, zup_cf, zup_i, zup_k, zLy_3, zLy_34, ne_eq, not_false_eq_true]
  refine z_auto rfl ?_
  try simp (decide := true) only [zup_eq, zup_cf, zup_i, zup_k, zLy_3, zLy_34, ne_eq, not_false_eq_true]
  refine z_auto rfl ?_
  refine z_br rfl (fun c1 => ?_) (fun c1 => ?_)
  · rw [fFl, if_pos c1, if_pos c1] at h
    refine z_auto rfl ?_
    refine z_jp rfl ?_
    refine z_auto rfl ?_
    first | refine z_st rfl ?_ | refine z_ck rfl (by decide) ?_
    refine z_auto rfl ?_
    refine z_jp rfl ?_
    refine z_auto rfl ?_
    refine z_jp rfl ?_
    refine z_auto rfl ?_
    exact z_rt rfl (h _ (fun c i k a1 a2 _ => by simp [zup, a1, a2]) (fun k => by simp [zup]) (by simp [zup]) (by simp [zup]) (by simp [zup]) (by simp [zup]) (by simp [zup]))
  · rw [fFl, if_neg c1, if_neg c1] at h
    refine z_auto rfl ?_
    refine z_jp rfl ?_
    refine z_auto rfl ?_
    first | refine z_st rfl ?_ | refine z_ck rfl (by decide) ?_
    refine z_auto rfl ?_
    try simp (decide := true) only [zup_eq, zup_cf, zup_i, zup_k, zLy_3, zLy_34, ne_eq, not_false_eq_true]
    refine z_auto rfl ?_
    refine z_st rfl ?_
    refine z_auto rfl ?_
    try simp (decide := true) only [zup_eq, zup_cf, zup_i, zup_k, zLy_3, zLy_34, ne_eq, not_false_eq_true]
    refine z_auto rfl ?_
    first | refine z_st rfl ?_ | refine z_ck rfl (by decide) ?_
    refine z_auto rfl ?_
    first | refine z_st rfl ?_ | refine z_ck rfl (by decide) ?_
    refine z_auto rfl ?_
    refine z_cl rfl (s_goThrough (n := n) (t := t) (by simp [zup]; exact hn) h8 ht (by simp [zup]; exact hty) ?_)
    try simp (decide := true) only [zup_eq, zup_cf, zup_i, zup_k, zLy_3, zLy_34, ne_eq, not_false_eq_true]
    refine z_auto rfl ?_
    refine z_jp rfl ?_
    refine z_auto rfl ?_
    exact z_rt rfl (h _ (fun c i k a1 a2 _ => by simp [zup, a1, a2]) (fun k => by simp [zup]) (by simp [zup]) (by simp [zup]) (by simp [zup]) (by simp [zup]) (by simp [zup]))
/-- what an egg is behind a landing: cracks, whole -/
def zld (f b : Int32) (s : Int32 × Int32) : Int32 × Int32 := if s.2 = 0 then s else if f ≤ zbr b s.1 then (if 2 * f ≤ zbr b s.1 then s else (s.1 + 1, s.2)) else (s.1, 0)
set_option maxHeartbeats 4000000 in
set_option maxRecDepth 100000 in
theorem s_land2 {i : Nat} {f b : Int32} (h : Q none (zup (zup I 2 i 0 (zld f b (I 2 i 0, I 2 i 1)).1) 2 i 1 (zld f b (I 2 i 0, I 2 i 1)).2) (zRR rl rs)) : zWm d 13 [zr 2 i, zi f, zi b] I (zRR rl rs) Q := by
  have e0 : zup (zup I 2 i 0 (I 2 i 0)) 2 i 1 (I 2 i 1) = I := by
    rw [zup_self, zup_self]
  refine s_land (fun c => ?_) (fun c c2 => ?_) (fun c c2 c3 => ?_) (fun c c2 c3 => ?_)
  · rw [zld, if_pos c] at h
    dsimp only at h
    rw [e0] at h
    exact h
  · rw [zld, if_neg c, if_neg c2] at h
    dsimp only at h
    rw [zup_self] at h
    exact h
  · rw [zld, if_neg c, if_pos c2, if_neg c3] at h
    dsimp only at h
    have e1 : zup (zup I 2 i 0 (I 2 i 0 + 1)) 2 i 1 (I 2 i 1) = zup I 2 i 0 (I 2 i 0 + 1) := by
      have := zup_self (I := zup I 2 i 0 (I 2 i 0 + 1)) (c := 2) (i := i) (k := 1)
      rw [zup_k (by decide)] at this
      exact this
    rw [e1] at h
    exact h
  · rw [zld, if_neg c, if_pos c2, if_pos c3] at h
    dsimp only at h
    rw [e0] at h
    exact h
def zla2 (f1 f2 bo b : Int32) (s : Int32 × Int32) : Int32 × Int32 := if bo = 0 then zld f1 b s else zld f2 b (zld f1 b s)
set_option maxHeartbeats 4000000 in
set_option maxRecDepth 100000 in
theorem s_landAll {b : Int32} (h : Q none (zup (zup I 2 2 0 (zla2 (I 3 0 7) (I 3 0 8) (I 3 0 9) b (I 2 2 0, I 2 2 1)).1) 2 2 1 (zla2 (I 3 0 7) (I 3 0 8) (I 3 0 9) b (I 2 2 0, I 2 2 1)).2) (zRR rl rs)) : zWm (d + 1) 20 [zr 3 0, zi b] I (zRR rl rs) Q := by
  refine z_auto rfl ?_
  refine z_cl rfl (s_land2 ?_)
  refine z_auto rfl ?_
  try simp (decide := true) only [zup_eq, zup_cf, zup_i, zup_k, zLy_3, zLy_34, ne_eq, not_false_eq_true]
  refine z_auto rfl ?_
  refine z_br rfl (fun c => ?_) (fun c => ?_)
  · rw [zla2, if_pos c] at h
    refine z_auto rfl ?_
    exact z_rt rfl h
  · rw [zla2, if_neg c] at h
    refine z_auto rfl ?_
    refine z_cl rfl (s_land2 ?_)
    try simp (decide := true) only [zup_eq, zup_cf, zup_i, zup_k, zLy_3, zLy_34, ne_eq, not_false_eq_true]
    refine z_auto rfl ?_
    refine z_jp rfl ?_
    have e : zup (zup (zup (zup I 2 2 0 (zld (I 3 0 7) b (I 2 2 0, I 2 2 1)).1) 2 2 1 (zld (I 3 0 7) b (I 2 2 0, I 2 2 1)).2) 2 2 0 (zld (I 3 0 8) b ((zld (I 3 0 7) b (I 2 2 0, I 2 2 1)).1, (zld (I 3 0 7) b (I 2 2 0, I 2 2 1)).2)).1) 2 2 1 (zld (I 3 0 8) b ((zld (I 3 0 7) b (I 2 2 0, I 2 2 1)).1, (zld (I 3 0 7) b (I 2 2 0, I 2 2 1)).2)).2 = zup (zup I 2 2 0 (zld (I 3 0 8) b (zld (I 3 0 7) b (I 2 2 0, I 2 2 1))).1) 2 2 1 (zld (I 3 0 8) b (zld (I 3 0 7) b (I 2 2 0, I 2 2 1))).2 := by
      exact zeg2
    rw [← e] at h
    refine z_auto rfl ?_
    exact z_rt rfl h
set_option maxHeartbeats 4000000 in
set_option maxRecDepth 100000 in
theorem s_eggCopy {i i' : Nat} (hw : I 2 i' 1 = 0 ∨ I 2 i' 1 = 1) (h : Q none (zup (zup I 2 i 0 (I 2 i' 0)) 2 i 1 (zup I 2 i 0 (I 2 i' 0) 2 i' 1)) (zRR rl rs)) : zWm d 14 [zr 2 i, zr 2 i'] I (zRR rl rs) Q := by
  refine z_auto rfl ?_
  refine z_ck rfl (by rw [zup_k (by decide)]; exact hw) ?_
  refine z_auto rfl ?_
  exact z_rt rfl h
set_option maxHeartbeats 4000000 in
set_option maxRecDepth 100000 in
theorem s_meet {b : Int32} (hw : I 2 0 1 = 0 ∨ I 2 0 1 = 1) (h : Q none (zup (zup I 2 2 0 (zla2 (I 3 0 7) (I 3 0 8) (I 3 0 9) b (I 2 0 0, I 2 0 1)).1) 2 2 1 (zla2 (I 3 0 7) (I 3 0 8) (I 3 0 9) b (I 2 0 0, I 2 0 1)).2) (zRR rl rs)) : zWm (d + 2) 18 [zr 3 0, zr 2 0, zi b] I (zRR rl rs) Q := by
  refine z_auto rfl ?_
  refine z_cl rfl (s_eggCopy hw ?_)
  try simp (decide := true) only [zup_eq, zup_cf, zup_i, zup_k, zLy_3, zLy_34, ne_eq, not_false_eq_true]
  refine z_auto rfl ?_
  refine z_cl rfl (s_landAll ?_)
  try simp (decide := true) only [zup_eq, zup_cf, zup_i, zup_k, zLy_3, zLy_34, ne_eq, not_false_eq_true]
  have e : ∀ x y : Int32, zup (zup (zup (zup I 2 2 0 (I 2 0 0)) 2 2 1 (I 2 0 1)) 2 2 0 x) 2 2 1 y = zup (zup I 2 2 0 x) 2 2 1 y := by
    intro x y
    exact zeg2
  rw [← e] at h
  refine z_auto rfl ?_
  exact z_rt rfl h
set_option maxHeartbeats 4000000 in
set_option maxRecDepth 100000 in
theorem s_meetNew {b : Int32} (h : Q none (zup (zup I 2 2 0 (zla2 (I 3 0 7) (I 3 0 8) (I 3 0 9) b (0, 1)).1) 2 2 1 (zla2 (I 3 0 7) (I 3 0 8) (I 3 0 9) b (0, 1)).2) (zRR rl rs)) : zWm (d + 2) 19 [zr 3 0, zi b] I (zRR rl rs) Q := by
  refine z_auto rfl ?_
  refine z_cl rfl (s_renew ?_)
  refine z_auto rfl ?_
  refine z_cl rfl (s_landAll ?_)
  try simp (decide := true) only [zup_eq, zup_cf, zup_i, zup_k, zLy_3, zLy_34, ne_eq, not_false_eq_true]
  have e : ∀ x y : Int32, zup (zup (zup (zup I 2 2 0 0) 2 2 1 1) 2 2 0 x) 2 2 1 y = zup (zup I 2 2 0 x) 2 2 1 y := by
    intro x y
    exact zeg2
  rw [← e] at h
  refine z_auto rfl ?_
  exact z_rt rfl h
set_option maxHeartbeats 4000000 in
set_option maxRecDepth 100000 in
theorem s_force (h : Q (some (zi (if I 3 0 7 < I 3 0 8 then I 3 0 8 else I 3 0 7))) I (zRR rl rs)) : zWm d 17 [zr 3 0] I (zRR rl rs) Q := by
  refine z_auto rfl ?_
  exact z_rt rfl h
end
