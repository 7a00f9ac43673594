/-! ===== how one slips ===== -/
def dn (a p q : Int32) : Int32 :=
  if a = 37 then (if q = 0 then 0 else p - p / q * q) else if a = 38 then b2 (decide (¬ p = 0) && decide (¬ q = 0)) else if a = 42 then p * q else if a = 43 then p + q else if a = 45 then p - q else if a = 47 then (if q = 0 then 0 else p / q)
  else if a = 60 then b2 (decide (¬ q ≤ p)) else if a = 61 then b2 (decide (p = q)) else if a = 62 then b2 (decide (¬ p ≤ q)) else b2 (decide (¬ p = 0) || decide (¬ q = 0))
theorem done_dn (a p q : Int32) (st : gS) : fX11_done a p q st = some (dn a p q, st) := by
  unfold fX11_done dn fX11_done_166 fX11_done_180 fX11_done_194 fX11_done_210 fX11_done_211 fX11_done_215 fX11_done_223 fX11_done_228
  simp only [Yt0, Yt1, bd]
  by_cases c1 : a = 37
  · rw [if_pos c1, if_pos c1]
    by_cases z : q = 0
    · rw [if_pos z, if_pos z]
    · rw [if_neg z, if_neg z, gc_p z]
  rw [if_neg c1, if_neg c1]
  by_cases c2 : a = 38
  · rw [if_pos c2, if_pos c2]
    by_cases z : p = 0
    · rw [if_pos z]; simp [z, b2]
    · rw [if_neg z]
      by_cases z2 : q = 0
      · rw [if_pos z2]; simp [z2, b2]
      · rw [if_neg z2]; simp [z, z2, b2]
  rw [if_neg c2, if_neg c2]
  by_cases c3 : a = 42
  · rw [if_pos c3, if_pos c3]
  rw [if_neg c3, if_neg c3]
  by_cases c4 : a = 43
  · rw [if_pos c4, if_pos c4]
  rw [if_neg c4, if_neg c4]
  by_cases c5 : a = 45
  · rw [if_pos c5, if_pos c5]
  rw [if_neg c5, if_neg c5]
  by_cases c6 : a = 47
  · rw [if_pos c6, if_pos c6]
    by_cases z : q = 0
    · rw [if_pos z, if_pos z]
    · rw [if_neg z, if_neg z, gc_p z]
  rw [if_neg c6, if_neg c6]
  by_cases c7 : a = 60
  · rw [if_pos c7, if_pos c7]
    by_cases z : q ≤ p
    · rw [if_pos z]; simp [z, b2]
    · rw [if_neg z]; simp [z, b2]
  rw [if_neg c7, if_neg c7]
  by_cases c8 : a = 61
  · rw [if_pos c8, if_pos c8]
    by_cases z : p = q
    · rw [if_pos z]; simp [z, b2]
    · rw [if_neg z]; simp [z, b2]
  rw [if_neg c8, if_neg c8]
  by_cases c9 : a = 62
  · rw [if_pos c9, if_pos c9]
    by_cases z : p ≤ q
    · rw [if_pos z]; simp [z, b2]
    · rw [if_neg z]; simp [z, b2]
  rw [if_neg c9, if_neg c9]
  by_cases z : p = 0
  · rw [if_pos z]
    by_cases z2 : q = 0
    · rw [if_pos z2]; simp [z, z2, b2]
    · rw [if_neg z2]; simp [z2, b2]
  · rw [if_neg z]; simp [z, b2]
theorem Xb0 (st : gS) : fX0_bit 0 st = some (0, st) := rfl
theorem Xb1 (st : gS) : fX0_bit 1 st = some (1, st) := rfl
theorem join_or (p q : Int32) (st : gS) : fX0_join 13 p q st = some (dn 124 p q, st) := by
  unfold fX0_join fX0_join_100 fX0_join_105
  rw [if_pos rfl, Xb0, Xb1, bd, bd]
  show _ = some (b2 (decide (¬ p = 0) || decide (¬ q = 0)), st)
  by_cases z : p = 0
  · rw [if_pos z]
    by_cases z2 : q = 0
    · rw [if_pos z2]; simp [z, z2, b2]
    · rw [if_neg z2]; simp [z2, b2]
  · rw [if_neg z]; simp [z, b2]
theorem join_and (p q : Int32) (st : gS) : fX0_join 14 p q st = some (dn 38 p q, st) := by
  unfold fX0_join fX0_join_121 fX0_join_122
  rw [if_neg (by decide), if_pos rfl, Xb0, Xb1, bd, bd]
  show _ = some (b2 (decide (¬ p = 0) && decide (¬ q = 0)), st)
  by_cases z : p = 0
  · rw [if_pos z]; simp [z, b2]
  · rw [if_neg z]
    by_cases z2 : q = 0
    · rw [if_pos z2]; simp [z2, b2]
    · rw [if_neg z2]; simp [z, z2, b2]
theorem join_dn {a : Int32} (h : a = 37 ∨ a = 42 ∨ a = 43 ∨ a = 45 ∨ a = 47 ∨ a = 60 ∨ a = 61 ∨ a = 62) (p q : Int32) (st : gS) : fX0_join a p q st = some (dn a p q, st) := by
  rw [← done_dn a p q st]
  unfold fX0_join fX11_done fX0_join_136 fX0_join_150 fX0_join_164 fX11_done_166 fX11_done_180 fX11_done_194
  rw [Yt0, Yt1]
  simp only [Xb0, Xb1, bd]
  rcases h with h | h | h | h | h | h | h | h <;> subst h <;> rfl
/-- the pile behind the first n steps -/
def ev (y : gS) (A : Nat → Int32) : Nat → Nat → Int32
  | 0 => fun _ => 0
  | n + 1 => if y.1 5 n = 0 then upd (ev y A n) ((dpt y n).getD 0) (y.1 6 n) else if y.1 5 n = 1 then upd (ev y A n) ((dpt y n).getD 0) (A (vN (y.1 6 n)))
    else if y.1 5 n = 2 then upd (ev y A n) ((dpt y n).getD 0 - 1) (b2 (decide (ev y A n ((dpt y n).getD 0 - 1) = 0)))
    else upd (ev y A n) ((dpt y n).getD 0 - 2) (dn (y.1 6 n) (ev y A n ((dpt y n).getD 0 - 2)) (ev y A n ((dpt y n).getD 0 - 1)))
def XV (x : gS) (u : Nat) (v : Nat → Int32) (d : Nat) (st : gS) : Prop := st.2 = x.2 ∧ (∀ k j, ¬ (k = u ∧ j = 4) → k ≠ u + 1 + 1 → st.1 k j = x.1 k j) ∧ st.1 u 4 = nI d ∧ ∀ j, j < d → st.1 (u + 1 + 1) j = v j
section EV
variable {x y st : gS} {u d : Nat} {v : Nat → Int32}
theorem upd_1 {f : Nat → Int32} {k j : Nat} {a : Int32} : upd f k a j = if j = k then a else f j := rfl
theorem XVpush (h : XV x u v d st) (hd : d < 32) (a : Int32) : ∃ st', fX0_push u a st = some st' ∧ XV x u (upd v d a) (d + 1) st' := by
  obtain ⟨h1, h2, h3, h4⟩ := h
  unfold fX0_push
  rw [wi_ne (show u ≠ u + 1 + 1 by omega), h3, if_neg (show ¬ 32 ≤ nI d from nI_ge (b := 32) (by omega) (by omega)), gc_p (gI_nI hd (by decide)), nI_clamp (by omega), nI_s]
  refine ⟨_, rfl, h1, fun k j hk hk2 => ?_, by rw [wi_1, if_pos ⟨rfl, rfl⟩], fun j hj => ?_⟩
  · rw [wi_1, if_neg hk, wi_ne hk2]; exact h2 k j hk hk2
  · rw [wi_ne (by omega), wi_1, upd_1]
    by_cases e : j = d
    · rw [if_pos ⟨rfl, e⟩, if_pos e]
    · rw [if_neg (fun z => e z.2), if_neg e]; exact h4 j (by omega)
theorem XVpop (h : XV x u v (d + 1) st) (hd : d < 32) : ∃ st', fX0_pop u st = some (v d, st') ∧ XV x u v d st' := by
  obtain ⟨h1, h2, h3, h4⟩ := h
  unfold fX0_pop
  rw [h3, if_pos (show 0 < nI (d + 1) from (nI_lt' (a := 0) (by decide) (by omega)).mpr (by omega)), show nI (d + 1) - 1 = nI d from pk_sub (b := 1) (by omega), wi_1, if_pos ⟨rfl, rfl⟩, gc_p (gI_nI hd (by decide)), nI_clamp (by omega), wi_ne (by omega), h4 d (by omega)]
  refine ⟨_, rfl, h1, fun k j hk hk2 => ?_, by rw [wi_1, if_pos ⟨rfl, rfl⟩], fun j hj => ?_⟩
  · rw [wi_1, if_neg hk]; exact h2 k j hk hk2
  · rw [wi_ne (by omega)]; exact h4 j (by omega)
theorem XVup (h : XV x u v d st) {w : Nat → Int32} (hw : ∀ j, j < d → w j = v j) : XV x u w d st :=
  ⟨h.1, h.2.1, h.2.2.1, fun j hj => (h.2.2.2 j hj).trans (hw j hj).symm⟩
theorem XVstep {A : Nat → Int32} {i d' : Nat} (hu : 20 < u ∨ u + 2 < 20) (h : XV x u (ev y A i) d st) (hi : i < vN (y.1 0 18)) (hi2 : i < 272) (hc : x.1 u 2 = nI (vN (y.1 0 18))) (hl : vN (y.1 0 18) < 2 ^ 31)
    (hs : stp (x.1 (u + 1 + 0) i) (y.1 5 i) (y.1 6 i)) (hd : dpt y i = some d) (hd' : dpt y (i + 1) = some d') (hd30 : d ≤ 30) (hd30' : d' ≤ 30) {a1 a2 : Int32} (e0 : A 0 = a1) (e1 : A 1 = a2) (e2 : A 2 = x.1 20 4) (e3 : A 3 = x.1 20 5) (e4 : A 4 = x.1 20 8) :
    ∃ st', XV x u (ev y A (i + 1)) d' st' ∧ ∀ k, fX0_value_8 u a1 a2 20 k (nI i) st = k (nI (i + 1)) st' := by
  obtain ⟨h1, h2, h3, h4⟩ := id h
  have s2 : st.1 u 2 = nI (vN (y.1 0 18)) := (h2 u 2 (by omega) (by omega)).trans hc
  have s3 : st.1 (u + 1 + 0) i = x.1 (u + 1 + 0) i := h2 _ _ (by omega) (by omega)
  have n4 : st.1 20 4 = A 2 := (h2 20 4 (by omega) (by omega)).trans e2.symm
  have n5 : st.1 20 5 = A 3 := (h2 20 5 (by omega) (by omega)).trans e3.symm
  have n8 : st.1 20 8 = A 4 := (h2 20 8 (by omega) (by omega)).trans e4.symm
  have hb : dpt y (i + 1) = (dpt y i).bind fun d => if y.1 5 i = 0 ∨ y.1 5 i = 1 then some (d + 1) else if y.1 5 i = 2 then (if 1 ≤ d then some d else none) else (if 2 ≤ d then some (d - 1) else none) := rfl
  rw [hd, hd', bd] at hb
  have hev : ev y A (i + 1) = if y.1 5 i = 0 then upd (ev y A i) d (y.1 6 i) else if y.1 5 i = 1 then upd (ev y A i) d (A (vN (y.1 6 i))) else if y.1 5 i = 2 then upd (ev y A i) (d - 1) (b2 (decide (ev y A i (d - 1) = 0))) else upd (ev y A i) (d - 2) (dn (y.1 6 i) (ev y A i (d - 2)) (ev y A i (d - 1))) := by
    rw [ev, hd]; rfl
  rw [hev]
  have push : ∀ a, ∃ st', fX0_push u a st = some st' ∧ XV x u (upd (ev y A i) d a) (d + 1) st' := fun a => XVpush h (by omega) a
  have step1 : ∀ k, fX0_value_8 u a1 a2 20 k (nI i) st = _ := fun k => by
    unfold fX0_value_8
    rw [s2, if_neg (nle hi hl), if_neg (show ¬ 272 ≤ nI i from nI_ge (b := 272) (by omega) (by omega)), gc_p (gI_nI hi2 (by decide)), nI_clamp (by omega), s3, nI_s, n4, n5, n8]
  have pushes : ∀ a c, y.1 5 i = 1 → y.1 6 i = nI c → A c = a → c < 5 → ∃ st', fX0_push u a st = some st' ∧ XV x u (if y.1 5 i = 0 then upd (ev y A i) d (y.1 6 i) else if y.1 5 i = 1 then upd (ev y A i) d (A (vN (y.1 6 i))) else if y.1 5 i = 2 then upd (ev y A i) (d - 1) (b2 (decide (ev y A i (d - 1) = 0))) else upd (ev y A i) (d - 2) (dn (y.1 6 i) (ev y A i (d - 2)) (ev y A i (d - 1)))) d' st' := by
    intro a c q1 q2 q3 q4
    obtain ⟨st', p1, p2⟩ := push a
    refine ⟨st', p1, ?_⟩
    rw [if_neg (by rw [q1]; decide), if_pos q1, q2, vN_nI (by omega), q3]
    rw [if_pos (Or.inr q1)] at hb
    rw [Option.some.inj hb]
    exact p2
  have joins : ∀ c, y.1 5 i = 3 → (∀ p q (st : gS), fX0_join c p q st = some (dn (y.1 6 i) p q, st)) → ∃ st', fX0_pushJoined u c st = some st' ∧ XV x u (if y.1 5 i = 0 then upd (ev y A i) d (y.1 6 i) else if y.1 5 i = 1 then upd (ev y A i) d (A (vN (y.1 6 i))) else if y.1 5 i = 2 then upd (ev y A i) (d - 1) (b2 (decide (ev y A i (d - 1) = 0))) else upd (ev y A i) (d - 2) (dn (y.1 6 i) (ev y A i (d - 2)) (ev y A i (d - 1)))) d' st' := by
    intro c q1 q2
    rw [if_neg (by rw [q1]; decide), if_neg (by rw [q1]; decide), if_neg (by rw [q1]; decide)]
    rw [if_neg (by rw [q1]; decide), if_neg (by rw [q1]; decide)] at hb
    by_cases hd2 : 2 ≤ d
    · rw [if_pos hd2] at hb
      obtain ⟨e, rfl⟩ : ∃ e, d = e + 2 := ⟨d - 2, by omega⟩
      have hd'e : d' = e + 1 := Option.some.inj hb
      subst hd'e
      obtain ⟨s1, p1, p2⟩ := XVpop h (by omega)
      obtain ⟨s2, p3, p4⟩ := XVpop p2 (by omega)
      obtain ⟨s3, p5, p6⟩ := XVpush p4 (by omega) (dn (y.1 6 i) (ev y A i e) (ev y A i (e + 1)))
      unfold fX0_pushJoined
      rw [p1, bd]
      dsimp only
      rw [p3, bd]
      dsimp only
      rw [q2, bd]
      dsimp only
      rw [p5, bd]
      exact ⟨_, rfl, p6⟩
    · rw [if_neg hd2] at hb; cases hb
  rcases hs with ⟨q1, q2, q3⟩ | ⟨q1, q2⟩ | ⟨q1, q2, q3⟩ | ⟨q1, q2⟩
  · obtain ⟨st', p1, p2⟩ := push (y.1 6 i)
    refine ⟨st', ?_, fun k => ?_⟩
    · rw [if_pos q1]
      rw [if_pos (Or.inl q1)] at hb
      rw [Option.some.inj hb]
      exact p2
    · rw [step1]
      unfold gl
      dsimp only
      rw [if_neg (by rw [q3.1]; exact nI_nn (by have := q3.2; omega)), q2, p1, bd]
  · rcases q2 with ⟨c1, c2⟩ | ⟨c1, c2⟩ | ⟨c1, c2⟩ | ⟨c1, c2⟩ | ⟨c1, c2⟩
    · obtain ⟨st', p1, p2⟩ := pushes _ 0 q1 c1 e0 (by decide)
      refine ⟨st', p2, fun k => ?_⟩
      rw [step1, c2]
      unfold gl
      dsimp only
      rw [if_pos (by decide), if_neg (by decide), if_pos (by decide), p1, bd]
    · obtain ⟨st', p1, p2⟩ := pushes _ 1 q1 c1 e1 (by decide)
      refine ⟨st', p2, fun k => ?_⟩
      rw [step1, c2]
      unfold gl
      dsimp only
      rw [if_pos (by decide), if_pos (by decide), p1, bd]
    · obtain ⟨st', p1, p2⟩ := pushes _ 2 q1 c1 rfl (by decide)
      refine ⟨st', p2, fun k => ?_⟩
      rw [step1, c2]
      unfold gl
      dsimp only
      rw [if_pos (by decide), if_neg (by decide), if_neg (by decide), if_neg (by decide), if_pos (by decide), p1, bd]
    · obtain ⟨st', p1, p2⟩ := pushes _ 3 q1 c1 rfl (by decide)
      refine ⟨st', p2, fun k => ?_⟩
      rw [step1, c2]
      unfold gl
      dsimp only
      rw [if_pos (by decide), if_neg (by decide), if_neg (by decide), if_neg (by decide), if_neg (by decide), if_pos (by decide), p1, bd]
    · obtain ⟨st', p1, p2⟩ := pushes _ 4 q1 c1 rfl (by decide)
      refine ⟨st', p2, fun k => ?_⟩
      rw [step1, c2]
      unfold gl
      dsimp only
      rw [if_pos (by decide), if_neg (by decide), if_neg (by decide), if_neg (by decide), if_neg (by decide), if_neg (by decide), if_pos (by decide), p1, bd]
  · rw [if_neg (by rw [q1]; decide), if_neg (by rw [q1]; decide), if_pos q1]
    rw [if_neg (by rw [q1]; decide), if_pos q1] at hb
    by_cases hd1 : 1 ≤ d
    · rw [if_pos hd1] at hb
      obtain ⟨e, rfl⟩ : ∃ e, d = e + 1 := ⟨d - 1, by omega⟩
      have hd'e : d' = e + 1 := Option.some.inj hb
      subst hd'e
      obtain ⟨s1, p1, p2⟩ := XVpop h (by omega)
      obtain ⟨s3, p5, p6⟩ := XVpush p2 (by omega) (b2 (decide (ev y A i e = 0)))
      refine ⟨s3, p6, fun k => ?_⟩
      rw [step1, q3]
      unfold gl
      dsimp only
      rw [if_pos (by decide), if_neg (by decide), if_neg (by decide), if_pos (by decide), p1, bd]
      unfold fX0_value_198
      dsimp only
      rw [Xb0, Xb1, bd, bd]
      dsimp only
      by_cases z : ev y A i e = 0
      · rw [if_pos z]
        rw [decide_eq_true z] at p5
        rw [show (1 : Int32) = b2 true from rfl, p5, bd, ← nI_s]; rfl
      · rw [if_neg z]
        rw [decide_eq_false z] at p5
        rw [show (0 : Int32) = b2 false from rfl, p5, bd, nI_s]
    · rw [if_neg hd1] at hb; cases hb
  · rcases q2 with ⟨c1, c2⟩ | ⟨c1, c2⟩ | ⟨c1, c2⟩
    · obtain ⟨st', p1, p2⟩ := joins 13 q1 (fun p q s => by rw [c1]; exact join_or p q s)
      refine ⟨st', p2, fun k => ?_⟩
      rw [step1, c2]
      unfold gl fX0_value_207
      dsimp only
      rw [if_pos (by decide), if_neg (by decide), if_neg (by decide), if_neg (by decide), if_neg (by decide), if_neg (by decide), if_neg (by decide), show (-14 : Int32) ^^^ (-1) = 13 from by decide, p1, bd, nI_s]
    · obtain ⟨st', p1, p2⟩ := joins 14 q1 (fun p q s => by rw [c1]; exact join_and p q s)
      refine ⟨st', p2, fun k => ?_⟩
      rw [step1, c2]
      unfold gl fX0_value_207
      dsimp only
      rw [if_pos (by decide), if_neg (by decide), if_neg (by decide), if_neg (by decide), if_neg (by decide), if_neg (by decide), if_neg (by decide), show (-15 : Int32) ^^^ (-1) = 14 from by decide, p1, bd, nI_s]
    · obtain ⟨st', p1, p2⟩ := joins (y.1 6 i) q1 (fun p q s => join_dn c1 p q s)
      refine ⟨st', p2, fun k => ?_⟩
      rw [step1, c2]
      unfold gl fX0_value_207
      dsimp only
      have n0 : -y.1 6 i - 1 < 0 := by rcases c1 with h | h | h | h | h | h | h | h <;> rw [h] <;> decide
      have n1 : (-y.1 6 i - 1) ^^^ (-1) = y.1 6 i := by rcases c1 with h | h | h | h | h | h | h | h <;> rw [h] <;> decide
      have n2 : ¬ y.1 6 i = 2 ∧ ¬ y.1 6 i = 7 ∧ ¬ y.1 6 i = 15 ∧ ¬ y.1 6 i = 16 ∧ ¬ y.1 6 i = 17 ∧ ¬ y.1 6 i = 18 := by rcases c1 with h | h | h | h | h | h | h | h <;> rw [h] <;> decide
      rw [if_pos n0, n1, if_neg n2.1, if_neg n2.2.1, if_neg n2.2.2.1, if_neg n2.2.2.2.1, if_neg n2.2.2.2.2.1, if_neg n2.2.2.2.2.2, p1, bd, nI_s]
end EV
